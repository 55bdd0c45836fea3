theorem dX10_barsOf_2 : decode cX10_barsOf 2 = .ok (.iconst 0, 1) := by decide +kernel
theorem dX10_barsOf_3 : decode cX10_barsOf 3 = .ok (.istore_n 3, 1) := by decide +kernel
theorem dX10_barsOf_4 : decode cX10_barsOf 4 = .ok (.iload_n 3, 1) := by decide +kernel
theorem dX10_barsOf_5 : decode cX10_barsOf 5 = .ok (.bipush 10, 2) := by decide +kernel
theorem dX10_barsOf_7 : decode cX10_barsOf 7 = .ok (.if_icmp .ge 32, 3) := by decide +kernel
theorem dX10_barsOf_10 : decode cX10_barsOf 10 = .ok (.iload_n 3, 1) := by decide +kernel
theorem dX10_barsOf_11 : decode cX10_barsOf 11 = .ok (.aload_n 0, 1) := by decide +kernel
theorem dX10_barsOf_12 : decode cX10_barsOf 12 = .ok (.invokevirtual 62, 3) := by decide +kernel
theorem dX10_barsOf_15 : decode cX10_barsOf 15 = .ok (.if_icmp .ge 24, 3) := by decide +kernel
theorem dX10_barsOf_18 : decode cX10_barsOf 18 = .ok (.aload_n 0, 1) := by decide +kernel
theorem dX10_barsOf_19 : decode cX10_barsOf 19 = .ok (.iload_n 1, 1) := by decide +kernel
theorem dX10_barsOf_20 : decode cX10_barsOf 20 = .ok (.iload_n 3, 1) := by decide +kernel
theorem dX10_barsOf_21 : decode cX10_barsOf 21 = .ok (.invokevirtual 122, 3) := by decide +kernel
theorem dX10_barsOf_24 : decode cX10_barsOf 24 = .ok (.ifCond .eq 9, 3) := by decide +kernel
theorem dX10_barsOf_27 : decode cX10_barsOf 27 = .ok (.iload_n 2, 1) := by decide +kernel
theorem dX10_barsOf_28 : decode cX10_barsOf 28 = .ok (.iconst 1, 1) := by decide +kernel
theorem dX10_barsOf_29 : decode cX10_barsOf 29 = .ok (.iload_n 3, 1) := by decide +kernel
theorem dX10_barsOf_30 : decode cX10_barsOf 30 = .ok (.ishl, 1) := by decide +kernel
theorem dX10_barsOf_31 : decode cX10_barsOf 31 = .ok (.ior, 1) := by decide +kernel
theorem dX10_barsOf_32 : decode cX10_barsOf 32 = .ok (.istore_n 2, 1) := by decide +kernel
theorem dX10_barsOf_33 : decode cX10_barsOf 33 = .ok (.iinc 3 1, 3) := by decide +kernel
theorem dX10_barsOf_36 : decode cX10_barsOf 36 = .ok (.goto (-32), 3) := by decide +kernel
theorem dX10_barsOf_39 : decode cX10_barsOf 39 = .ok (.iload_n 2, 1) := by decide +kernel
theorem dX10_barsOf_40 : decode cX10_barsOf 40 = .ok (.ireturn, 1) := by decide +kernel
theorem dX10_foundYes_0 : decode cX10_foundYes 0 = .ok (.aload_n 0, 1) := by decide +kernel
theorem dX10_foundYes_1 : decode cX10_foundYes 1 = .ok (.iload_n 1, 1) := by decide +kernel
theorem dX10_foundYes_2 : decode cX10_foundYes 2 = .ok (.bipush 9, 2) := by decide +kernel
theorem dX10_foundYes_4 : decode cX10_foundYes 4 = .ok (.invokevirtual 65, 3) := by decide +kernel
theorem dX10_foundYes_7 : decode cX10_foundYes 7 = .ok (.iload_n 2, 1) := by decide +kernel
theorem dX10_foundYes_8 : decode cX10_foundYes 8 = .ok (.invokestatic 98, 3) := by decide +kernel
theorem dX10_foundYes_11 : decode cX10_foundYes 11 = .ok (.ireturn, 1) := by decide +kernel
theorem dX10_holds_0 : decode cX10_holds 0 = .ok (.aload_n 0, 1) := by decide +kernel
theorem dX10_holds_1 : decode cX10_holds 1 = .ok (.iload_n 1, 1) := by decide +kernel
theorem dX10_holds_2 : decode cX10_holds 2 = .ok (.iload_n 3, 1) := by decide +kernel
theorem dX10_holds_3 : decode cX10_holds 3 = .ok (.invokevirtual 116, 3) := by decide +kernel
theorem dX10_holds_6 : decode cX10_holds 6 = .ok (.ifCond .eq 15, 3) := by decide +kernel
theorem dX10_holds_9 : decode cX10_holds 9 = .ok (.aload_n 0, 1) := by decide +kernel
theorem dX10_holds_10 : decode cX10_holds 10 = .ok (.iload_n 3, 1) := by decide +kernel
theorem dX10_holds_11 : decode cX10_holds 11 = .ok (.invokevirtual 125, 3) := by decide +kernel
theorem dX10_holds_14 : decode cX10_holds 14 = .ok (.iload_n 2, 1) := by decide +kernel
theorem dX10_holds_15 : decode cX10_holds 15 = .ok (.invokestatic 98, 3) := by decide +kernel
theorem dX10_holds_18 : decode cX10_holds 18 = .ok (.ifCond .ne 5, 3) := by decide +kernel
theorem dX10_holds_21 : decode cX10_holds 21 = .ok (.iconst 0, 1) := by decide +kernel
theorem dX10_holds_22 : decode cX10_holds 22 = .ok (.ireturn, 1) := by decide +kernel
theorem dX10_holds_23 : decode cX10_holds 23 = .ok (.aload_n 0, 1) := by decide +kernel
theorem dX10_holds_24 : decode cX10_holds 24 = .ok (.iload_n 3, 1) := by decide +kernel
theorem dX10_holds_25 : decode cX10_holds 25 = .ok (.iload_n 2, 1) := by decide +kernel
theorem dX10_holds_26 : decode cX10_holds 26 = .ok (.invokevirtual 128, 3) := by decide +kernel
theorem dX10_holds_29 : decode cX10_holds 29 = .ok (.aload_n 0, 1) := by decide +kernel
theorem dX10_holds_30 : decode cX10_holds 30 = .ok (.iload_n 1, 1) := by decide +kernel
theorem dX10_holds_31 : decode cX10_holds 31 = .ok (.iconst 4, 1) := by decide +kernel
theorem dX10_holds_32 : decode cX10_holds 32 = .ok (.invokevirtual 65, 3) := by decide +kernel
theorem dX10_holds_35 : decode cX10_holds 35 = .ok (.iload_n 2, 1) := by decide +kernel
theorem dX10_holds_36 : decode cX10_holds 36 = .ok (.invokestatic 98, 3) := by decide +kernel
theorem dX10_holds_39 : decode cX10_holds 39 = .ok (.if_icmp .ne 7, 3) := by decide +kernel
theorem dX10_holds_42 : decode cX10_holds 42 = .ok (.iconst 1, 1) := by decide +kernel
theorem dX10_holds_43 : decode cX10_holds 43 = .ok (.goto 4, 3) := by decide +kernel
theorem dX10_holds_46 : decode cX10_holds 46 = .ok (.iconst 0, 1) := by decide +kernel
theorem dX10_holds_47 : decode cX10_holds 47 = .ok (.istore 4, 2) := by decide +kernel
theorem dX10_holds_49 : decode cX10_holds 49 = .ok (.aload_n 0, 1) := by decide +kernel
theorem dX10_holds_50 : decode cX10_holds 50 = .ok (.iload_n 1, 1) := by decide +kernel
theorem dX10_holds_51 : decode cX10_holds 51 = .ok (.iload 4, 2) := by decide +kernel
theorem dX10_holds_53 : decode cX10_holds 53 = .ok (.ifCond .eq 7, 3) := by decide +kernel
theorem dX10_holds_56 : decode cX10_holds 56 = .ok (.iconst 1, 1) := by decide +kernel
theorem dX10_holds_57 : decode cX10_holds 57 = .ok (.goto 4, 3) := by decide +kernel
theorem dX10_holds_60 : decode cX10_holds 60 = .ok (.iconst 0, 1) := by decide +kernel
theorem dX10_holds_61 : decode cX10_holds 61 = .ok (.invokevirtual 65, 3) := by decide +kernel
theorem dX10_holds_64 : decode cX10_holds 64 = .ok (.istore 5, 2) := by decide +kernel
theorem dX10_holds_66 : decode cX10_holds 66 = .ok (.aload_n 0, 1) := by decide +kernel
theorem dX10_holds_67 : decode cX10_holds 67 = .ok (.iload_n 1, 1) := by decide +kernel
theorem dX10_holds_68 : decode cX10_holds 68 = .ok (.iload 4, 2) := by decide +kernel
theorem dX10_holds_70 : decode cX10_holds 70 = .ok (.ifCond .eq 7, 3) := by decide +kernel
theorem dX10_holds_73 : decode cX10_holds 73 = .ok (.iconst 0, 1) := by decide +kernel
theorem dX10_holds_74 : decode cX10_holds 74 = .ok (.goto 4, 3) := by decide +kernel
theorem dX10_holds_77 : decode cX10_holds 77 = .ok (.iconst 1, 1) := by decide +kernel
theorem dX10_holds_78 : decode cX10_holds 78 = .ok (.invokevirtual 65, 3) := by decide +kernel
theorem dX10_holds_81 : decode cX10_holds 81 = .ok (.istore 6, 2) := by decide +kernel
theorem dX10_holds_83 : decode cX10_holds 83 = .ok (.aload_n 0, 1) := by decide +kernel
theorem dX10_holds_84 : decode cX10_holds 84 = .ok (.iload_n 3, 1) := by decide +kernel
theorem dX10_holds_85 : decode cX10_holds 85 = .ok (.iload 5, 2) := by decide +kernel
theorem dX10_holds_87 : decode cX10_holds 87 = .ok (.invokevirtual 131, 3) := by decide +kernel
theorem dX10_holds_90 : decode cX10_holds 90 = .ok (.ifCond .ne 5, 3) := by decide +kernel
theorem dX10_holds_93 : decode cX10_holds 93 = .ok (.iconst 0, 1) := by decide +kernel
theorem dX10_holds_94 : decode cX10_holds 94 = .ok (.ireturn, 1) := by decide +kernel
theorem dX10_holds_95 : decode cX10_holds 95 = .ok (.aload_n 0, 1) := by decide +kernel
theorem dX10_holds_96 : decode cX10_holds 96 = .ok (.getfield 9, 3) := by decide +kernel
theorem dX10_holds_99 : decode cX10_holds 99 = .ok (.iconst 4, 1) := by decide +kernel
theorem dX10_holds_100 : decode cX10_holds 100 = .ok (.iaload, 1) := by decide +kernel
theorem dX10_holds_101 : decode cX10_holds 101 = .ok (.iconst 2, 1) := by decide +kernel
theorem dX10_holds_102 : decode cX10_holds 102 = .ok (.if_icmp .eq 18, 3) := by decide +kernel
theorem dX10_holds_105 : decode cX10_holds 105 = .ok (.aload_n 0, 1) := by decide +kernel
theorem dX10_holds_106 : decode cX10_holds 106 = .ok (.getfield 9, 3) := by decide +kernel
theorem dX10_holds_109 : decode cX10_holds 109 = .ok (.iconst 4, 1) := by decide +kernel
theorem dX10_holds_110 : decode cX10_holds 110 = .ok (.iaload, 1) := by decide +kernel
theorem dX10_holds_111 : decode cX10_holds 111 = .ok (.iconst 1, 1) := by decide +kernel
theorem dX10_holds_112 : decode cX10_holds 112 = .ok (.if_icmp .ne 10, 3) := by decide +kernel
theorem dX10_holds_115 : decode cX10_holds 115 = .ok (.iload 4, 2) := by decide +kernel
theorem dX10_holds_117 : decode cX10_holds 117 = .ok (.ifCond .ne 5, 3) := by decide +kernel
theorem dX10_holds_120 : decode cX10_holds 120 = .ok (.iconst 1, 1) := by decide +kernel
theorem dX10_holds_121 : decode cX10_holds 121 = .ok (.ireturn, 1) := by decide +kernel
theorem dX10_holds_122 : decode cX10_holds 122 = .ok (.aload_n 0, 1) := by decide +kernel
theorem dX10_holds_123 : decode cX10_holds 123 = .ok (.iload_n 3, 1) := by decide +kernel
theorem dX10_holds_124 : decode cX10_holds 124 = .ok (.iconst 0, 1) := by decide +kernel
theorem dX10_holds_125 : decode cX10_holds 125 = .ok (.iload 5, 2) := by decide +kernel
theorem dX10_holds_127 : decode cX10_holds 127 = .ok (.invokevirtual 108, 3) := by decide +kernel
theorem dX10_holds_130 : decode cX10_holds 130 = .ok (.ifCond .eq 14, 3) := by decide +kernel
theorem dX10_holds_133 : decode cX10_holds 133 = .ok (.aload_n 0, 1) := by decide +kernel
theorem dX10_holds_134 : decode cX10_holds 134 = .ok (.iload_n 3, 1) := by decide +kernel
theorem dX10_holds_135 : decode cX10_holds 135 = .ok (.iconst 1, 1) := by decide +kernel
theorem dX10_holds_136 : decode cX10_holds 136 = .ok (.iload 6, 2) := by decide +kernel
theorem dX10_holds_138 : decode cX10_holds 138 = .ok (.invokevirtual 108, 3) := by decide +kernel
theorem dX10_holds_141 : decode cX10_holds 141 = .ok (.ifCond .ne 25, 3) := by decide +kernel
theorem dX10_holds_144 : decode cX10_holds 144 = .ok (.aload_n 0, 1) := by decide +kernel
theorem dX10_holds_145 : decode cX10_holds 145 = .ok (.iload_n 3, 1) := by decide +kernel
theorem dX10_holds_146 : decode cX10_holds 146 = .ok (.iconst 1, 1) := by decide +kernel
theorem dX10_holds_147 : decode cX10_holds 147 = .ok (.iload 5, 2) := by decide +kernel
theorem dX10_holds_149 : decode cX10_holds 149 = .ok (.invokevirtual 108, 3) := by decide +kernel
theorem dX10_holds_152 : decode cX10_holds 152 = .ok (.ifCond .eq 18, 3) := by decide +kernel
theorem dX10_holds_155 : decode cX10_holds 155 = .ok (.aload_n 0, 1) := by decide +kernel
theorem dX10_holds_156 : decode cX10_holds 156 = .ok (.iload_n 3, 1) := by decide +kernel
theorem dX10_holds_157 : decode cX10_holds 157 = .ok (.iconst 0, 1) := by decide +kernel
theorem dX10_holds_158 : decode cX10_holds 158 = .ok (.iload 6, 2) := by decide +kernel
theorem dX10_holds_160 : decode cX10_holds 160 = .ok (.invokevirtual 108, 3) := by decide +kernel
theorem dX10_holds_163 : decode cX10_holds 163 = .ok (.ifCond .eq 7, 3) := by decide +kernel
theorem dX10_holds_166 : decode cX10_holds 166 = .ok (.iconst 1, 1) := by decide +kernel
theorem dX10_holds_167 : decode cX10_holds 167 = .ok (.goto 4, 3) := by decide +kernel
theorem dX10_holds_170 : decode cX10_holds 170 = .ok (.iconst 0, 1) := by decide +kernel
theorem dX10_holds_171 : decode cX10_holds 171 = .ok (.ireturn, 1) := by decide +kernel
theorem dX10_holderOf_0 : decode cX10_holderOf 0 = .ok (.iconst (-1), 1) := by decide +kernel
theorem dX10_holderOf_1 : decode cX10_holderOf 1 = .ok (.istore_n 3, 1) := by decide +kernel
theorem dX10_holderOf_2 : decode cX10_holderOf 2 = .ok (.iconst 0, 1) := by decide +kernel
theorem dX10_holderOf_3 : decode cX10_holderOf 3 = .ok (.istore 4, 2) := by decide +kernel
theorem dX10_holderOf_5 : decode cX10_holderOf 5 = .ok (.iload 4, 2) := by decide +kernel
theorem dX10_holderOf_7 : decode cX10_holderOf 7 = .ok (.aload_n 0, 1) := by decide +kernel
theorem dX10_holderOf_8 : decode cX10_holderOf 8 = .ok (.invokevirtual 62, 3) := by decide +kernel
theorem dX10_holderOf_11 : decode cX10_holderOf 11 = .ok (.if_icmp .ge 49, 3) := by decide +kernel
theorem dX10_holderOf_14 : decode cX10_holderOf 14 = .ok (.aload_n 0, 1) := by decide +kernel
theorem dX10_holderOf_15 : decode cX10_holderOf 15 = .ok (.iload_n 1, 1) := by decide +kernel
theorem dX10_holderOf_16 : decode cX10_holderOf 16 = .ok (.iload_n 2, 1) := by decide +kernel
theorem dX10_holderOf_17 : decode cX10_holderOf 17 = .ok (.iload 4, 2) := by decide +kernel
theorem dX10_holderOf_19 : decode cX10_holderOf 19 = .ok (.invokevirtual 134, 3) := by decide +kernel
theorem dX10_holderOf_22 : decode cX10_holderOf 22 = .ok (.ifCond .ne 6, 3) := by decide +kernel
theorem dX10_holderOf_25 : decode cX10_holderOf 25 = .ok (.goto 29, 3) := by decide +kernel
theorem dX10_holderOf_28 : decode cX10_holderOf 28 = .ok (.iload_n 3, 1) := by decide +kernel
theorem dX10_holderOf_29 : decode cX10_holderOf 29 = .ok (.iconst (-1), 1) := by decide +kernel
theorem dX10_holderOf_30 : decode cX10_holderOf 30 = .ok (.if_icmp .eq 21, 3) := by decide +kernel
theorem dX10_holderOf_33 : decode cX10_holderOf 33 = .ok (.aload_n 0, 1) := by decide +kernel
theorem dX10_holderOf_34 : decode cX10_holderOf 34 = .ok (.iload 4, 2) := by decide +kernel
theorem dX10_holderOf_36 : decode cX10_holderOf 36 = .ok (.bipush 6, 2) := by decide +kernel
theorem dX10_holderOf_38 : decode cX10_holderOf 38 = .ok (.invokevirtual 65, 3) := by decide +kernel
theorem dX10_holderOf_41 : decode cX10_holderOf 41 = .ok (.aload_n 0, 1) := by decide +kernel
theorem dX10_holderOf_42 : decode cX10_holderOf 42 = .ok (.iload_n 3, 1) := by decide +kernel
theorem dX10_holderOf_43 : decode cX10_holderOf 43 = .ok (.bipush 6, 2) := by decide +kernel
theorem dX10_holderOf_45 : decode cX10_holderOf 45 = .ok (.invokevirtual 65, 3) := by decide +kernel
theorem dX10_holderOf_48 : decode cX10_holderOf 48 = .ok (.if_icmp .lt 6, 3) := by decide +kernel
theorem dX10_holderOf_51 : decode cX10_holderOf 51 = .ok (.iload 4, 2) := by decide +kernel
theorem dX10_holderOf_53 : decode cX10_holderOf 53 = .ok (.istore_n 3, 1) := by decide +kernel
theorem dX10_holderOf_54 : decode cX10_holderOf 54 = .ok (.iinc 4 1, 3) := by decide +kernel
theorem dX10_holderOf_57 : decode cX10_holderOf 57 = .ok (.goto (-52), 3) := by decide +kernel
theorem dX10_holderOf_60 : decode cX10_holderOf 60 = .ok (.iload_n 3, 1) := by decide +kernel
theorem dX10_holderOf_61 : decode cX10_holderOf 61 = .ok (.ireturn, 1) := by decide +kernel
theorem dX10_heldOf_0 : decode cX10_heldOf 0 = .ok (.iconst 0, 1) := by decide +kernel
theorem dX10_heldOf_1 : decode cX10_heldOf 1 = .ok (.istore_n 2, 1) := by decide +kernel
theorem dX10_heldOf_2 : decode cX10_heldOf 2 = .ok (.iconst 0, 1) := by decide +kernel
theorem dX10_heldOf_3 : decode cX10_heldOf 3 = .ok (.istore_n 3, 1) := by decide +kernel
theorem dX10_heldOf_4 : decode cX10_heldOf 4 = .ok (.iload_n 3, 1) := by decide +kernel
theorem dX10_heldOf_5 : decode cX10_heldOf 5 = .ok (.bipush 31, 2) := by decide +kernel
theorem dX10_heldOf_7 : decode cX10_heldOf 7 = .ok (.if_icmp .ge 37, 3) := by decide +kernel
theorem dX10_heldOf_10 : decode cX10_heldOf 10 = .ok (.aload_n 0, 1) := by decide +kernel
theorem dX10_heldOf_11 : decode cX10_heldOf 11 = .ok (.iload_n 1, 1) := by decide +kernel
theorem dX10_heldOf_12 : decode cX10_heldOf 12 = .ok (.invokevirtual 137, 3) := by decide +kernel
theorem dX10_heldOf_15 : decode cX10_heldOf 15 = .ok (.iload_n 3, 1) := by decide +kernel
theorem dX10_heldOf_16 : decode cX10_heldOf 16 = .ok (.invokestatic 98, 3) := by decide +kernel
theorem dX10_heldOf_19 : decode cX10_heldOf 19 = .ok (.ifCond .eq 19, 3) := by decide +kernel
theorem dX10_heldOf_22 : decode cX10_heldOf 22 = .ok (.aload_n 0, 1) := by decide +kernel
theorem dX10_heldOf_23 : decode cX10_heldOf 23 = .ok (.iload_n 1, 1) := by decide +kernel
theorem dX10_heldOf_24 : decode cX10_heldOf 24 = .ok (.iload_n 3, 1) := by decide +kernel
theorem dX10_heldOf_25 : decode cX10_heldOf 25 = .ok (.invokevirtual 140, 3) := by decide +kernel
theorem dX10_heldOf_28 : decode cX10_heldOf 28 = .ok (.iconst (-1), 1) := by decide +kernel
theorem dX10_heldOf_29 : decode cX10_heldOf 29 = .ok (.if_icmp .eq 9, 3) := by decide +kernel
theorem dX10_heldOf_32 : decode cX10_heldOf 32 = .ok (.iload_n 2, 1) := by decide +kernel
theorem dX10_heldOf_33 : decode cX10_heldOf 33 = .ok (.iconst 1, 1) := by decide +kernel
theorem dX10_heldOf_34 : decode cX10_heldOf 34 = .ok (.iload_n 3, 1) := by decide +kernel
theorem dX10_heldOf_35 : decode cX10_heldOf 35 = .ok (.ishl, 1) := by decide +kernel
theorem dX10_heldOf_36 : decode cX10_heldOf 36 = .ok (.ior, 1) := by decide +kernel
theorem dX10_heldOf_37 : decode cX10_heldOf 37 = .ok (.istore_n 2, 1) := by decide +kernel
theorem dX10_heldOf_38 : decode cX10_heldOf 38 = .ok (.iinc 3 1, 3) := by decide +kernel
theorem dX10_heldOf_41 : decode cX10_heldOf 41 = .ok (.goto (-37), 3) := by decide +kernel
theorem dX10_heldOf_44 : decode cX10_heldOf 44 = .ok (.iload_n 2, 1) := by decide +kernel
theorem dX10_heldOf_45 : decode cX10_heldOf 45 = .ok (.ireturn, 1) := by decide +kernel
theorem dX10_heldYesOf_0 : decode cX10_heldYesOf 0 = .ok (.iconst 0, 1) := by decide +kernel
theorem dX10_heldYesOf_1 : decode cX10_heldYesOf 1 = .ok (.istore_n 2, 1) := by decide +kernel
theorem dX10_heldYesOf_2 : decode cX10_heldYesOf 2 = .ok (.iconst 0, 1) := by decide +kernel
theorem dX10_heldYesOf_3 : decode cX10_heldYesOf 3 = .ok (.istore_n 3, 1) := by decide +kernel
theorem dX10_heldYesOf_4 : decode cX10_heldYesOf 4 = .ok (.iload_n 3, 1) := by decide +kernel
theorem dX10_heldYesOf_5 : decode cX10_heldYesOf 5 = .ok (.bipush 31, 2) := by decide +kernel
theorem dX10_heldYesOf_7 : decode cX10_heldYesOf 7 = .ok (.if_icmp .ge 55, 3) := by decide +kernel
theorem dX10_heldYesOf_10 : decode cX10_heldYesOf 10 = .ok (.aload_n 0, 1) := by decide +kernel
theorem dX10_heldYesOf_11 : decode cX10_heldYesOf 11 = .ok (.iload_n 1, 1) := by decide +kernel
theorem dX10_heldYesOf_12 : decode cX10_heldYesOf 12 = .ok (.invokevirtual 137, 3) := by decide +kernel
theorem dX10_heldYesOf_15 : decode cX10_heldYesOf 15 = .ok (.iload_n 3, 1) := by decide +kernel
theorem dX10_heldYesOf_16 : decode cX10_heldYesOf 16 = .ok (.invokestatic 98, 3) := by decide +kernel
theorem dX10_heldYesOf_19 : decode cX10_heldYesOf 19 = .ok (.ifCond .eq 12, 3) := by decide +kernel
theorem dX10_heldYesOf_22 : decode cX10_heldYesOf 22 = .ok (.aload_n 0, 1) := by decide +kernel
theorem dX10_heldYesOf_23 : decode cX10_heldYesOf 23 = .ok (.iload_n 1, 1) := by decide +kernel
theorem dX10_heldYesOf_24 : decode cX10_heldYesOf 24 = .ok (.iload_n 3, 1) := by decide +kernel
theorem dX10_heldYesOf_25 : decode cX10_heldYesOf 25 = .ok (.invokevirtual 140, 3) := by decide +kernel
theorem dX10_heldYesOf_28 : decode cX10_heldYesOf 28 = .ok (.goto 4, 3) := by decide +kernel
theorem dX10_heldYesOf_31 : decode cX10_heldYesOf 31 = .ok (.iconst (-1), 1) := by decide +kernel
theorem dX10_heldYesOf_32 : decode cX10_heldYesOf 32 = .ok (.istore 4, 2) := by decide +kernel
theorem dX10_heldYesOf_34 : decode cX10_heldYesOf 34 = .ok (.iload 4, 2) := by decide +kernel
theorem dX10_heldYesOf_36 : decode cX10_heldYesOf 36 = .ok (.iconst (-1), 1) := by decide +kernel
theorem dX10_heldYesOf_37 : decode cX10_heldYesOf 37 = .ok (.if_icmp .eq 19, 3) := by decide +kernel
theorem dX10_heldYesOf_40 : decode cX10_heldYesOf 40 = .ok (.aload_n 0, 1) := by decide +kernel
theorem dX10_heldYesOf_41 : decode cX10_heldYesOf 41 = .ok (.iload 4, 2) := by decide +kernel
theorem dX10_heldYesOf_43 : decode cX10_heldYesOf 43 = .ok (.iload_n 3, 1) := by decide +kernel
theorem dX10_heldYesOf_44 : decode cX10_heldYesOf 44 = .ok (.invokevirtual 128, 3) := by decide +kernel
theorem dX10_heldYesOf_47 : decode cX10_heldYesOf 47 = .ok (.ifCond .eq 9, 3) := by decide +kernel
theorem dX10_heldYesOf_50 : decode cX10_heldYesOf 50 = .ok (.iload_n 2, 1) := by decide +kernel
theorem dX10_heldYesOf_51 : decode cX10_heldYesOf 51 = .ok (.iconst 1, 1) := by decide +kernel
theorem dX10_heldYesOf_52 : decode cX10_heldYesOf 52 = .ok (.iload_n 3, 1) := by decide +kernel
theorem dX10_heldYesOf_53 : decode cX10_heldYesOf 53 = .ok (.ishl, 1) := by decide +kernel
theorem dX10_heldYesOf_54 : decode cX10_heldYesOf 54 = .ok (.ior, 1) := by decide +kernel
theorem dX10_heldYesOf_55 : decode cX10_heldYesOf 55 = .ok (.istore_n 2, 1) := by decide +kernel
theorem dX10_heldYesOf_56 : decode cX10_heldYesOf 56 = .ok (.iinc 3 1, 3) := by decide +kernel
theorem dX10_heldYesOf_59 : decode cX10_heldYesOf 59 = .ok (.goto (-55), 3) := by decide +kernel
theorem dX10_heldYesOf_62 : decode cX10_heldYesOf 62 = .ok (.iload_n 2, 1) := by decide +kernel
theorem dX10_heldYesOf_63 : decode cX10_heldYesOf 63 = .ok (.ireturn, 1) := by decide +kernel
theorem dX10_forcedOf_0 : decode cX10_forcedOf 0 = .ok (.aload_n 0, 1) := by decide +kernel
theorem dX10_forcedOf_1 : decode cX10_forcedOf 1 = .ok (.iload_n 1, 1) := by decide +kernel
theorem dX10_forcedOf_2 : decode cX10_forcedOf 2 = .ok (.invokevirtual 143, 3) := by decide +kernel
theorem dX10_forcedOf_5 : decode cX10_forcedOf 5 = .ok (.ifCond .eq 5, 3) := by decide +kernel
theorem dX10_forcedOf_8 : decode cX10_forcedOf 8 = .ok (.iconst 2, 1) := by decide +kernel
theorem dX10_forcedOf_9 : decode cX10_forcedOf 9 = .ok (.ireturn, 1) := by decide +kernel
theorem dX10_forcedOf_10 : decode cX10_forcedOf 10 = .ok (.aload_n 0, 1) := by decide +kernel
theorem dX10_forcedOf_11 : decode cX10_forcedOf 11 = .ok (.iload_n 1, 1) := by decide +kernel
theorem dX10_forcedOf_12 : decode cX10_forcedOf 12 = .ok (.invokevirtual 146, 3) := by decide +kernel
theorem dX10_forcedOf_15 : decode cX10_forcedOf 15 = .ok (.istore_n 2, 1) := by decide +kernel
theorem dX10_forcedOf_16 : decode cX10_forcedOf 16 = .ok (.aload_n 0, 1) := by decide +kernel
theorem dX10_forcedOf_17 : decode cX10_forcedOf 17 = .ok (.iload_n 1, 1) := by decide +kernel
theorem dX10_forcedOf_18 : decode cX10_forcedOf 18 = .ok (.invokevirtual 149, 3) := by decide +kernel
theorem dX10_forcedOf_21 : decode cX10_forcedOf 21 = .ok (.istore_n 3, 1) := by decide +kernel
theorem dX10_forcedOf_22 : decode cX10_forcedOf 22 = .ok (.iload_n 2, 1) := by decide +kernel
theorem dX10_forcedOf_23 : decode cX10_forcedOf 23 = .ok (.iload_n 3, 1) := by decide +kernel
theorem dX10_forcedOf_24 : decode cX10_forcedOf 24 = .ok (.iconst (-1), 1) := by decide +kernel
theorem dX10_forcedOf_25 : decode cX10_forcedOf 25 = .ok (.ixor, 1) := by decide +kernel
theorem dX10_forcedOf_26 : decode cX10_forcedOf 26 = .ok (.iand, 1) := by decide +kernel
theorem dX10_forcedOf_27 : decode cX10_forcedOf 27 = .ok (.istore 4, 2) := by decide +kernel
theorem dX10_forcedOf_29 : decode cX10_forcedOf 29 = .ok (.aload_n 0, 1) := by decide +kernel
theorem dX10_forcedOf_30 : decode cX10_forcedOf 30 = .ok (.iload_n 1, 1) := by decide +kernel
theorem dX10_forcedOf_31 : decode cX10_forcedOf 31 = .ok (.iconst 4, 1) := by decide +kernel
theorem dX10_forcedOf_32 : decode cX10_forcedOf 32 = .ok (.invokevirtual 65, 3) := by decide +kernel
theorem dX10_forcedOf_35 : decode cX10_forcedOf 35 = .ok (.iload 4, 2) := by decide +kernel
theorem dX10_forcedOf_37 : decode cX10_forcedOf 37 = .ok (.iand, 1) := by decide +kernel
theorem dX10_forcedOf_38 : decode cX10_forcedOf 38 = .ok (.ifCond .ne 14, 3) := by decide +kernel
theorem dX10_forcedOf_41 : decode cX10_forcedOf 41 = .ok (.aload_n 0, 1) := by decide +kernel
theorem dX10_forcedOf_42 : decode cX10_forcedOf 42 = .ok (.iload_n 1, 1) := by decide +kernel
theorem dX10_forcedOf_43 : decode cX10_forcedOf 43 = .ok (.iconst 5, 1) := by decide +kernel
theorem dX10_forcedOf_44 : decode cX10_forcedOf 44 = .ok (.invokevirtual 65, 3) := by decide +kernel
theorem dX10_forcedOf_47 : decode cX10_forcedOf 47 = .ok (.iload_n 3, 1) := by decide +kernel
theorem dX10_forcedOf_48 : decode cX10_forcedOf 48 = .ok (.iand, 1) := by decide +kernel
theorem dX10_forcedOf_49 : decode cX10_forcedOf 49 = .ok (.ifCond .eq 5, 3) := by decide +kernel
theorem dX10_forcedOf_52 : decode cX10_forcedOf 52 = .ok (.iconst 1, 1) := by decide +kernel
theorem dX10_forcedOf_53 : decode cX10_forcedOf 53 = .ok (.ireturn, 1) := by decide +kernel
theorem dX10_forcedOf_54 : decode cX10_forcedOf 54 = .ok (.iload_n 2, 1) := by decide +kernel
theorem dX10_forcedOf_55 : decode cX10_forcedOf 55 = .ok (.aload_n 0, 1) := by decide +kernel
theorem dX10_forcedOf_56 : decode cX10_forcedOf 56 = .ok (.iload_n 1, 1) := by decide +kernel
theorem dX10_forcedOf_57 : decode cX10_forcedOf 57 = .ok (.invokevirtual 137, 3) := by decide +kernel
theorem dX10_forcedOf_60 : decode cX10_forcedOf 60 = .ok (.if_icmp .ne 7, 3) := by decide +kernel
theorem dX10_forcedOf_63 : decode cX10_forcedOf 63 = .ok (.iconst 0, 1) := by decide +kernel
theorem dX10_forcedOf_64 : decode cX10_forcedOf 64 = .ok (.goto 4, 3) := by decide +kernel
theorem dX10_forcedOf_67 : decode cX10_forcedOf 67 = .ok (.iconst (-1), 1) := by decide +kernel
theorem dX10_forcedOf_68 : decode cX10_forcedOf 68 = .ok (.ireturn, 1) := by decide +kernel
theorem dX10_standsOn_0 : decode cX10_standsOn 0 = .ok (.iload_n 2, 1) := by decide +kernel
theorem dX10_standsOn_1 : decode cX10_standsOn 1 = .ok (.iload_n 1, 1) := by decide +kernel
theorem dX10_standsOn_2 : decode cX10_standsOn 2 = .ok (.if_icmp .eq 19, 3) := by decide +kernel
theorem dX10_standsOn_5 : decode cX10_standsOn 5 = .ok (.aload_n 0, 1) := by decide +kernel
theorem dX10_standsOn_6 : decode cX10_standsOn 6 = .ok (.iload_n 1, 1) := by decide +kernel
theorem dX10_standsOn_7 : decode cX10_standsOn 7 = .ok (.invokevirtual 69, 3) := by decide +kernel
theorem dX10_standsOn_10 : decode cX10_standsOn 10 = .ok (.ifCond .eq 11, 3) := by decide +kernel
theorem dX10_standsOn_13 : decode cX10_standsOn 13 = .ok (.aload_n 0, 1) := by decide +kernel
theorem dX10_standsOn_14 : decode cX10_standsOn 14 = .ok (.iload_n 1, 1) := by decide +kernel
theorem dX10_standsOn_15 : decode cX10_standsOn 15 = .ok (.invokevirtual 86, 3) := by decide +kernel
theorem dX10_standsOn_18 : decode cX10_standsOn 18 = .ok (.ifCond .eq 5, 3) := by decide +kernel
theorem dX10_standsOn_21 : decode cX10_standsOn 21 = .ok (.iconst 0, 1) := by decide +kernel
theorem dX10_standsOn_22 : decode cX10_standsOn 22 = .ok (.ireturn, 1) := by decide +kernel
theorem dX10_standsOn_23 : decode cX10_standsOn 23 = .ok (.aload_n 0, 1) := by decide +kernel
theorem dX10_standsOn_24 : decode cX10_standsOn 24 = .ok (.iload_n 1, 1) := by decide +kernel
theorem dX10_standsOn_25 : decode cX10_standsOn 25 = .ok (.bipush 9, 2) := by decide +kernel
theorem dX10_standsOn_27 : decode cX10_standsOn 27 = .ok (.invokevirtual 65, 3) := by decide +kernel
theorem dX10_standsOn_30 : decode cX10_standsOn 30 = .ok (.aload_n 0, 1) := by decide +kernel
theorem dX10_standsOn_31 : decode cX10_standsOn 31 = .ok (.iload_n 1, 1) := by decide +kernel
theorem dX10_standsOn_32 : decode cX10_standsOn 32 = .ok (.bipush 10, 2) := by decide +kernel
theorem dX10_standsOn_34 : decode cX10_standsOn 34 = .ok (.invokevirtual 65, 3) := by decide +kernel
theorem dX10_standsOn_37 : decode cX10_standsOn 37 = .ok (.ior, 1) := by decide +kernel
theorem dX10_standsOn_38 : decode cX10_standsOn 38 = .ok (.istore_n 3, 1) := by decide +kernel
theorem dX10_standsOn_39 : decode cX10_standsOn 39 = .ok (.iconst 0, 1) := by decide +kernel
theorem dX10_standsOn_40 : decode cX10_standsOn 40 = .ok (.istore 4, 2) := by decide +kernel
theorem dX10_standsOn_42 : decode cX10_standsOn 42 = .ok (.iload 4, 2) := by decide +kernel
theorem dX10_standsOn_44 : decode cX10_standsOn 44 = .ok (.bipush 31, 2) := by decide +kernel
theorem dX10_standsOn_46 : decode cX10_standsOn 46 = .ok (.if_icmp .ge 48, 3) := by decide +kernel
theorem dX10_standsOn_49 : decode cX10_standsOn 49 = .ok (.iload_n 3, 1) := by decide +kernel
theorem dX10_standsOn_50 : decode cX10_standsOn 50 = .ok (.iload 4, 2) := by decide +kernel
theorem dX10_standsOn_52 : decode cX10_standsOn 52 = .ok (.invokestatic 98, 3) := by decide +kernel
theorem dX10_standsOn_55 : decode cX10_standsOn 55 = .ok (.ifCond .eq 33, 3) := by decide +kernel
theorem dX10_standsOn_58 : decode cX10_standsOn 58 = .ok (.aload_n 0, 1) := by decide +kernel
theorem dX10_standsOn_59 : decode cX10_standsOn 59 = .ok (.iload_n 1, 1) := by decide +kernel
theorem dX10_standsOn_60 : decode cX10_standsOn 60 = .ok (.iload 4, 2) := by decide +kernel
theorem dX10_standsOn_62 : decode cX10_standsOn 62 = .ok (.invokevirtual 140, 3) := by decide +kernel
theorem dX10_standsOn_65 : decode cX10_standsOn 65 = .ok (.iload_n 2, 1) := by decide +kernel
theorem dX10_standsOn_66 : decode cX10_standsOn 66 = .ok (.if_icmp .ne 22, 3) := by decide +kernel
theorem dX10_standsOn_69 : decode cX10_standsOn 69 = .ok (.aload_n 0, 1) := by decide +kernel
theorem dX10_standsOn_70 : decode cX10_standsOn 70 = .ok (.iload_n 2, 1) := by decide +kernel
theorem dX10_standsOn_71 : decode cX10_standsOn 71 = .ok (.iload 4, 2) := by decide +kernel
theorem dX10_standsOn_73 : decode cX10_standsOn 73 = .ok (.invokevirtual 128, 3) := by decide +kernel
theorem dX10_standsOn_76 : decode cX10_standsOn 76 = .ok (.aload_n 0, 1) := by decide +kernel
theorem dX10_standsOn_77 : decode cX10_standsOn 77 = .ok (.iload_n 1, 1) := by decide +kernel
theorem dX10_standsOn_78 : decode cX10_standsOn 78 = .ok (.iload 4, 2) := by decide +kernel
theorem dX10_standsOn_80 : decode cX10_standsOn 80 = .ok (.invokevirtual 128, 3) := by decide +kernel
theorem dX10_standsOn_83 : decode cX10_standsOn 83 = .ok (.if_icmp .ne 5, 3) := by decide +kernel
theorem dX10_standsOn_86 : decode cX10_standsOn 86 = .ok (.iconst 1, 1) := by decide +kernel
theorem dX10_standsOn_87 : decode cX10_standsOn 87 = .ok (.ireturn, 1) := by decide +kernel
theorem dX10_standsOn_88 : decode cX10_standsOn 88 = .ok (.iinc 4 1, 3) := by decide +kernel
theorem dX10_standsOn_91 : decode cX10_standsOn 91 = .ok (.goto (-49), 3) := by decide +kernel
theorem dX10_standsOn_94 : decode cX10_standsOn 94 = .ok (.iconst 0, 1) := by decide +kernel
theorem dX10_standsOn_95 : decode cX10_standsOn 95 = .ok (.ireturn, 1) := by decide +kernel
theorem dX10_clashOf_0 : decode cX10_clashOf 0 = .ok (.aload_n 0, 1) := by decide +kernel
theorem dX10_clashOf_1 : decode cX10_clashOf 1 = .ok (.getfield 22, 3) := by decide +kernel
theorem dX10_clashOf_4 : decode cX10_clashOf 4 = .ok (.iconst 2, 1) := by decide +kernel
theorem dX10_clashOf_5 : decode cX10_clashOf 5 = .ok (.iload_n 1, 1) := by decide +kernel
theorem dX10_clashOf_6 : decode cX10_clashOf 6 = .ok (.imul, 1) := by decide +kernel
theorem dX10_clashOf_7 : decode cX10_clashOf 7 = .ok (.iaload, 1) := by decide +kernel
theorem dX10_clashOf_8 : decode cX10_clashOf 8 = .ok (.aload_n 0, 1) := by decide +kernel
theorem dX10_clashOf_9 : decode cX10_clashOf 9 = .ok (.getfield 22, 3) := by decide +kernel
theorem dX10_clashOf_12 : decode cX10_clashOf 12 = .ok (.iconst 2, 1) := by decide +kernel
theorem dX10_clashOf_13 : decode cX10_clashOf 13 = .ok (.iload_n 1, 1) := by decide +kernel
theorem dX10_clashOf_14 : decode cX10_clashOf 14 = .ok (.imul, 1) := by decide +kernel
theorem dX10_clashOf_15 : decode cX10_clashOf 15 = .ok (.iconst 1, 1) := by decide +kernel
theorem dX10_clashOf_16 : decode cX10_clashOf 16 = .ok (.iadd, 1) := by decide +kernel
theorem dX10_clashOf_17 : decode cX10_clashOf 17 = .ok (.iaload, 1) := by decide +kernel
theorem dX10_clashOf_18 : decode cX10_clashOf 18 = .ok (.ior, 1) := by decide +kernel
theorem dX10_clashOf_19 : decode cX10_clashOf 19 = .ok (.aload_n 0, 1) := by decide +kernel
theorem dX10_clashOf_20 : decode cX10_clashOf 20 = .ok (.getfield 22, 3) := by decide +kernel
theorem dX10_clashOf_23 : decode cX10_clashOf 23 = .ok (.iconst 2, 1) := by decide +kernel
theorem dX10_clashOf_24 : decode cX10_clashOf 24 = .ok (.iload_n 2, 1) := by decide +kernel
theorem dX10_clashOf_25 : decode cX10_clashOf 25 = .ok (.imul, 1) := by decide +kernel
theorem dX10_clashOf_26 : decode cX10_clashOf 26 = .ok (.iaload, 1) := by decide +kernel
theorem dX10_clashOf_27 : decode cX10_clashOf 27 = .ok (.aload_n 0, 1) := by decide +kernel
theorem dX10_clashOf_28 : decode cX10_clashOf 28 = .ok (.getfield 22, 3) := by decide +kernel
theorem dX10_clashOf_31 : decode cX10_clashOf 31 = .ok (.iconst 2, 1) := by decide +kernel
theorem dX10_clashOf_32 : decode cX10_clashOf 32 = .ok (.iload_n 2, 1) := by decide +kernel
theorem dX10_clashOf_33 : decode cX10_clashOf 33 = .ok (.imul, 1) := by decide +kernel
theorem dX10_clashOf_34 : decode cX10_clashOf 34 = .ok (.iconst 1, 1) := by decide +kernel
theorem dX10_clashOf_35 : decode cX10_clashOf 35 = .ok (.iadd, 1) := by decide +kernel
theorem dX10_clashOf_36 : decode cX10_clashOf 36 = .ok (.iaload, 1) := by decide +kernel
theorem dX10_clashOf_37 : decode cX10_clashOf 37 = .ok (.ior, 1) := by decide +kernel
theorem dX10_clashOf_38 : decode cX10_clashOf 38 = .ok (.iand, 1) := by decide +kernel
theorem dX10_clashOf_39 : decode cX10_clashOf 39 = .ok (.istore_n 3, 1) := by decide +kernel
theorem dX10_clashOf_40 : decode cX10_clashOf 40 = .ok (.aload_n 0, 1) := by decide +kernel
theorem dX10_clashOf_41 : decode cX10_clashOf 41 = .ok (.iload_n 1, 1) := by decide +kernel
theorem dX10_clashOf_42 : decode cX10_clashOf 42 = .ok (.invokevirtual 125, 3) := by decide +kernel
theorem dX10_clashOf_45 : decode cX10_clashOf 45 = .ok (.aload_n 0, 1) := by decide +kernel
theorem dX10_clashOf_46 : decode cX10_clashOf 46 = .ok (.iload_n 2, 1) := by decide +kernel
theorem dX10_clashOf_47 : decode cX10_clashOf 47 = .ok (.invokevirtual 125, 3) := by decide +kernel
theorem dX10_clashOf_50 : decode cX10_clashOf 50 = .ok (.iand, 1) := by decide +kernel
theorem dX10_clashOf_51 : decode cX10_clashOf 51 = .ok (.aload_n 0, 1) := by decide +kernel
theorem dX10_clashOf_52 : decode cX10_clashOf 52 = .ok (.iload_n 1, 1) := by decide +kernel
theorem dX10_clashOf_53 : decode cX10_clashOf 53 = .ok (.bipush 9, 2) := by decide +kernel
theorem dX10_clashOf_55 : decode cX10_clashOf 55 = .ok (.invokevirtual 65, 3) := by decide +kernel
theorem dX10_clashOf_58 : decode cX10_clashOf 58 = .ok (.aload_n 0, 1) := by decide +kernel
theorem dX10_clashOf_59 : decode cX10_clashOf 59 = .ok (.iload_n 2, 1) := by decide +kernel
theorem dX10_clashOf_60 : decode cX10_clashOf 60 = .ok (.bipush 9, 2) := by decide +kernel
theorem dX10_clashOf_62 : decode cX10_clashOf 62 = .ok (.invokevirtual 65, 3) := by decide +kernel
theorem dX10_clashOf_65 : decode cX10_clashOf 65 = .ok (.ixor, 1) := by decide +kernel
theorem dX10_clashOf_66 : decode cX10_clashOf 66 = .ok (.iand, 1) := by decide +kernel
theorem dX10_clashOf_67 : decode cX10_clashOf 67 = .ok (.istore 4, 2) := by decide +kernel
theorem dX10_clashOf_69 : decode cX10_clashOf 69 = .ok (.iload_n 3, 1) := by decide +kernel
theorem dX10_clashOf_70 : decode cX10_clashOf 70 = .ok (.ifCond .eq 8, 3) := by decide +kernel
theorem dX10_clashOf_73 : decode cX10_clashOf 73 = .ok (.iload_n 1, 1) := by decide +kernel
theorem dX10_clashOf_74 : decode cX10_clashOf 74 = .ok (.iload_n 2, 1) := by decide +kernel
theorem dX10_clashOf_75 : decode cX10_clashOf 75 = .ok (.if_icmp .ne 5, 3) := by decide +kernel
theorem dX10_clashOf_78 : decode cX10_clashOf 78 = .ok (.iconst (-1), 1) := by decide +kernel
theorem dX10_clashOf_79 : decode cX10_clashOf 79 = .ok (.ireturn, 1) := by decide +kernel
theorem dX10_clashOf_80 : decode cX10_clashOf 80 = .ok (.iconst 0, 1) := by decide +kernel
theorem dX10_clashOf_81 : decode cX10_clashOf 81 = .ok (.istore 5, 2) := by decide +kernel
theorem dX10_clashOf_83 : decode cX10_clashOf 83 = .ok (.iload 5, 2) := by decide +kernel
theorem dX10_clashOf_85 : decode cX10_clashOf 85 = .ok (.bipush 31, 2) := by decide +kernel
theorem dX10_clashOf_87 : decode cX10_clashOf 87 = .ok (.if_icmp .ge 22, 3) := by decide +kernel
theorem dX10_clashOf_90 : decode cX10_clashOf 90 = .ok (.iload 4, 2) := by decide +kernel
theorem dX10_clashOf_92 : decode cX10_clashOf 92 = .ok (.iload 5, 2) := by decide +kernel
theorem dX10_clashOf_94 : decode cX10_clashOf 94 = .ok (.invokestatic 98, 3) := by decide +kernel
theorem dX10_clashOf_97 : decode cX10_clashOf 97 = .ok (.ifCond .eq 6, 3) := by decide +kernel
theorem dX10_clashOf_100 : decode cX10_clashOf 100 = .ok (.iload 5, 2) := by decide +kernel
theorem dX10_clashOf_102 : decode cX10_clashOf 102 = .ok (.ireturn, 1) := by decide +kernel
theorem dX10_clashOf_103 : decode cX10_clashOf 103 = .ok (.iinc 5 1, 3) := by decide +kernel
theorem dX10_clashOf_106 : decode cX10_clashOf 106 = .ok (.goto (-23), 3) := by decide +kernel
theorem dX10_clashOf_109 : decode cX10_clashOf 109 = .ok (.iconst (-1), 1) := by decide +kernel
theorem dX10_clashOf_110 : decode cX10_clashOf 110 = .ok (.ireturn, 1) := by decide +kernel
theorem dX10_judgedOnes_0 : decode cX10_judgedOnes 0 = .ok (.iconst 0, 1) := by decide +kernel
theorem dX10_judgedOnes_1 : decode cX10_judgedOnes 1 = .ok (.istore_n 2, 1) := by decide +kernel
theorem dX10_judgedOnes_2 : decode cX10_judgedOnes 2 = .ok (.iconst 0, 1) := by decide +kernel
theorem dX10_judgedOnes_3 : decode cX10_judgedOnes 3 = .ok (.istore_n 3, 1) := by decide +kernel
theorem dX10_judgedOnes_4 : decode cX10_judgedOnes 4 = .ok (.iload_n 3, 1) := by decide +kernel
theorem dX10_judgedOnes_5 : decode cX10_judgedOnes 5 = .ok (.aload_n 0, 1) := by decide +kernel
theorem dX10_judgedOnes_6 : decode cX10_judgedOnes 6 = .ok (.invokevirtual 62, 3) := by decide +kernel
theorem dX10_judgedOnes_9 : decode cX10_judgedOnes 9 = .ok (.if_icmp .ge 32, 3) := by decide +kernel
theorem dX10_judgedOnes_12 : decode cX10_judgedOnes 12 = .ok (.aload_n 0, 1) := by decide +kernel
theorem dX10_judgedOnes_13 : decode cX10_judgedOnes 13 = .ok (.iload_n 3, 1) := by decide +kernel
theorem dX10_judgedOnes_14 : decode cX10_judgedOnes 14 = .ok (.invokevirtual 69, 3) := by decide +kernel
theorem dX10_judgedOnes_17 : decode cX10_judgedOnes 17 = .ok (.ifCond .eq 18, 3) := by decide +kernel
theorem dX10_judgedOnes_20 : decode cX10_judgedOnes 20 = .ok (.iload_n 1, 1) := by decide +kernel
theorem dX10_judgedOnes_21 : decode cX10_judgedOnes 21 = .ok (.ifCond .eq 11, 3) := by decide +kernel
theorem dX10_judgedOnes_24 : decode cX10_judgedOnes 24 = .ok (.aload_n 0, 1) := by decide +kernel
theorem dX10_judgedOnes_25 : decode cX10_judgedOnes 25 = .ok (.iload_n 3, 1) := by decide +kernel
theorem dX10_judgedOnes_26 : decode cX10_judgedOnes 26 = .ok (.invokevirtual 86, 3) := by decide +kernel
theorem dX10_judgedOnes_29 : decode cX10_judgedOnes 29 = .ok (.ifCond .eq 6, 3) := by decide +kernel
theorem dX10_judgedOnes_32 : decode cX10_judgedOnes 32 = .ok (.iinc 2 1, 3) := by decide +kernel
theorem dX10_judgedOnes_35 : decode cX10_judgedOnes 35 = .ok (.iinc 3 1, 3) := by decide +kernel
theorem dX10_judgedOnes_38 : decode cX10_judgedOnes 38 = .ok (.goto (-34), 3) := by decide +kernel
theorem dX10_judgedOnes_41 : decode cX10_judgedOnes 41 = .ok (.iload_n 2, 1) := by decide +kernel
theorem dX10_judgedOnes_42 : decode cX10_judgedOnes 42 = .ok (.ireturn, 1) := by decide +kernel
theorem dX10_clashes_0 : decode cX10_clashes 0 = .ok (.aload_n 0, 1) := by decide +kernel
theorem dX10_clashes_1 : decode cX10_clashes 1 = .ok (.invokevirtual 152, 3) := by decide +kernel
theorem dX10_clashes_4 : decode cX10_clashes 4 = .ok (.iconst 0, 1) := by decide +kernel
theorem dX10_clashes_5 : decode cX10_clashes 5 = .ok (.istore_n 1, 1) := by decide +kernel
theorem dX10_clashes_6 : decode cX10_clashes 6 = .ok (.iconst 0, 1) := by decide +kernel
theorem dX10_clashes_7 : decode cX10_clashes 7 = .ok (.istore_n 2, 1) := by decide +kernel
theorem dX10_clashes_8 : decode cX10_clashes 8 = .ok (.iload_n 2, 1) := by decide +kernel
theorem dX10_clashes_9 : decode cX10_clashes 9 = .ok (.aload_n 0, 1) := by decide +kernel
theorem dX10_clashes_10 : decode cX10_clashes 10 = .ok (.invokevirtual 62, 3) := by decide +kernel
theorem dX10_clashes_13 : decode cX10_clashes 13 = .ok (.if_icmp .ge 40, 3) := by decide +kernel
theorem dX10_clashes_16 : decode cX10_clashes 16 = .ok (.iload_n 2, 1) := by decide +kernel
theorem dX10_clashes_17 : decode cX10_clashes 17 = .ok (.iconst 1, 1) := by decide +kernel
theorem dX10_clashes_18 : decode cX10_clashes 18 = .ok (.iadd, 1) := by decide +kernel
theorem dX10_clashes_19 : decode cX10_clashes 19 = .ok (.istore_n 3, 1) := by decide +kernel
theorem dX10_clashes_20 : decode cX10_clashes 20 = .ok (.iload_n 3, 1) := by decide +kernel
theorem dX10_clashes_21 : decode cX10_clashes 21 = .ok (.aload_n 0, 1) := by decide +kernel
theorem dX10_clashes_22 : decode cX10_clashes 22 = .ok (.invokevirtual 62, 3) := by decide +kernel
theorem dX10_clashes_25 : decode cX10_clashes 25 = .ok (.if_icmp .ge 22, 3) := by decide +kernel
theorem dX10_clashes_28 : decode cX10_clashes 28 = .ok (.aload_n 0, 1) := by decide +kernel
theorem dX10_clashes_29 : decode cX10_clashes 29 = .ok (.iload_n 2, 1) := by decide +kernel
theorem dX10_clashes_30 : decode cX10_clashes 30 = .ok (.iload_n 3, 1) := by decide +kernel
theorem dX10_clashes_31 : decode cX10_clashes 31 = .ok (.invokevirtual 155, 3) := by decide +kernel
theorem dX10_clashes_34 : decode cX10_clashes 34 = .ok (.iconst (-1), 1) := by decide +kernel
theorem dX10_clashes_35 : decode cX10_clashes 35 = .ok (.if_icmp .eq 6, 3) := by decide +kernel
theorem dX10_clashes_38 : decode cX10_clashes 38 = .ok (.iinc 1 1, 3) := by decide +kernel
theorem dX10_clashes_41 : decode cX10_clashes 41 = .ok (.iinc 3 1, 3) := by decide +kernel
theorem dX10_clashes_44 : decode cX10_clashes 44 = .ok (.goto (-24), 3) := by decide +kernel
theorem dX10_clashes_47 : decode cX10_clashes 47 = .ok (.iinc 2 1, 3) := by decide +kernel
theorem dX10_clashes_50 : decode cX10_clashes 50 = .ok (.goto (-42), 3) := by decide +kernel
theorem dX10_clashes_53 : decode cX10_clashes 53 = .ok (.iload_n 1, 1) := by decide +kernel
theorem dX10_clashes_54 : decode cX10_clashes 54 = .ok (.ireturn, 1) := by decide +kernel
theorem dX10_count_0 : decode cX10_count 0 = .ok (.aload_n 0, 1) := by decide +kernel
theorem dX10_count_1 : decode cX10_count 1 = .ok (.iconst 0, 1) := by decide +kernel
theorem dX10_count_2 : decode cX10_count 2 = .ok (.putfield 51, 3) := by decide +kernel
theorem dX10_count_5 : decode cX10_count 5 = .ok (.iload_n 1, 1) := by decide +kernel
theorem dX10_count_6 : decode cX10_count 6 = .ok (.tableswitch 103 0 10 #[58, 58, 58, 65, 71, 77, 77, 77, 88, 93, 98], 58) := by decide +kernel
theorem dX10_count_64 : decode cX10_count 64 = .ok (.aload_n 0, 1) := by decide +kernel
theorem dX10_count_65 : decode cX10_count 65 = .ok (.getfield 9, 3) := by decide +kernel
theorem dX10_count_68 : decode cX10_count 68 = .ok (.iload_n 1, 1) := by decide +kernel
theorem dX10_count_69 : decode cX10_count 69 = .ok (.iaload, 1) := by decide +kernel
theorem dX10_count_70 : decode cX10_count 70 = .ok (.ireturn, 1) := by decide +kernel
theorem dX10_count_71 : decode cX10_count 71 = .ok (.aload_n 0, 1) := by decide +kernel
theorem dX10_count_72 : decode cX10_count 72 = .ok (.iconst 0, 1) := by decide +kernel
theorem dX10_count_73 : decode cX10_count 73 = .ok (.invokevirtual 158, 3) := by decide +kernel
theorem dX10_count_76 : decode cX10_count 76 = .ok (.ireturn, 1) := by decide +kernel
theorem dX10_count_77 : decode cX10_count 77 = .ok (.aload_n 0, 1) := by decide +kernel
theorem dX10_count_78 : decode cX10_count 78 = .ok (.iconst 1, 1) := by decide +kernel
theorem dX10_count_79 : decode cX10_count 79 = .ok (.invokevirtual 158, 3) := by decide +kernel
theorem dX10_count_82 : decode cX10_count 82 = .ok (.ireturn, 1) := by decide +kernel
theorem dX10_count_83 : decode cX10_count 83 = .ok (.aload_n 0, 1) := by decide +kernel
theorem dX10_count_84 : decode cX10_count 84 = .ok (.getfield 9, 3) := by decide +kernel
theorem dX10_count_87 : decode cX10_count 87 = .ok (.iconst 3, 1) := by decide +kernel
theorem dX10_count_88 : decode cX10_count 88 = .ok (.iload_n 1, 1) := by decide +kernel
theorem dX10_count_89 : decode cX10_count 89 = .ok (.iadd, 1) := by decide +kernel
theorem dX10_count_90 : decode cX10_count 90 = .ok (.iconst 5, 1) := by decide +kernel
theorem dX10_count_91 : decode cX10_count 91 = .ok (.isub, 1) := by decide +kernel
theorem dX10_count_92 : decode cX10_count 92 = .ok (.iaload, 1) := by decide +kernel
theorem dX10_count_93 : decode cX10_count 93 = .ok (.ireturn, 1) := by decide +kernel
theorem dX10_count_94 : decode cX10_count 94 = .ok (.aload_n 0, 1) := by decide +kernel
theorem dX10_count_95 : decode cX10_count 95 = .ok (.getfield 162, 3) := by decide +kernel
theorem dX10_count_98 : decode cX10_count 98 = .ok (.ireturn, 1) := by decide +kernel
theorem dX10_count_99 : decode cX10_count 99 = .ok (.aload_n 0, 1) := by decide +kernel
theorem dX10_count_100 : decode cX10_count 100 = .ok (.getfield 165, 3) := by decide +kernel
theorem dX10_count_103 : decode cX10_count 103 = .ok (.ireturn, 1) := by decide +kernel
theorem dX10_count_104 : decode cX10_count 104 = .ok (.aload_n 0, 1) := by decide +kernel
theorem dX10_count_105 : decode cX10_count 105 = .ok (.invokevirtual 168, 3) := by decide +kernel
theorem dX10_count_108 : decode cX10_count 108 = .ok (.ireturn, 1) := by decide +kernel
theorem dX10_count_109 : decode cX10_count 109 = .ok (.aload_n 0, 1) := by decide +kernel
theorem dX10_count_110 : decode cX10_count 110 = .ok (.iconst 1, 1) := by decide +kernel
theorem dX10_count_111 : decode cX10_count 111 = .ok (.invokevirtual 171, 3) := by decide +kernel
theorem dX10_count_114 : decode cX10_count 114 = .ok (.ireturn, 1) := by decide +kernel
theorem dX10_letter_0 : decode cX10_letter 0 = .ok (.aload_n 0, 1) := by decide +kernel
theorem dX10_letter_1 : decode cX10_letter 1 = .ok (.iconst 0, 1) := by decide +kernel
theorem dX10_letter_2 : decode cX10_letter 2 = .ok (.putfield 51, 3) := by decide +kernel
theorem dX10_letter_5 : decode cX10_letter 5 = .ok (.aload_n 0, 1) := by decide +kernel
theorem dX10_letter_6 : decode cX10_letter 6 = .ok (.iload_n 1, 1) := by decide +kernel
theorem dX10_letter_7 : decode cX10_letter 7 = .ok (.invokevirtual 174, 3) := by decide +kernel
theorem dX10_letter_10 : decode cX10_letter 10 = .ok (.ifCond .eq 29, 3) := by decide +kernel
theorem dX10_letter_13 : decode cX10_letter 13 = .ok (.iload_n 2, 1) := by decide +kernel
theorem dX10_letter_14 : decode cX10_letter 14 = .ok (.iconst 0, 1) := by decide +kernel
theorem dX10_letter_15 : decode cX10_letter 15 = .ok (.iconst 5, 1) := by decide +kernel
theorem dX10_letter_16 : decode cX10_letter 16 = .ok (.invokestatic 58, 3) := by decide +kernel
theorem dX10_letter_19 : decode cX10_letter 19 = .ok (.ifCond .eq 20, 3) := by decide +kernel
theorem dX10_letter_22 : decode cX10_letter 22 = .ok (.aload_n 0, 1) := by decide +kernel
theorem dX10_letter_23 : decode cX10_letter 23 = .ok (.getfield 9, 3) := by decide +kernel
theorem dX10_letter_26 : decode cX10_letter 26 = .ok (.bipush 6, 2) := by decide +kernel
theorem dX10_letter_28 : decode cX10_letter 28 = .ok (.bipush 6, 2) := by decide +kernel
theorem dX10_letter_30 : decode cX10_letter 30 = .ok (.iload_n 1, 1) := by decide +kernel
theorem dX10_letter_31 : decode cX10_letter 31 = .ok (.imul, 1) := by decide +kernel
theorem dX10_letter_32 : decode cX10_letter 32 = .ok (.iadd, 1) := by decide +kernel
theorem dX10_letter_33 : decode cX10_letter 33 = .ok (.iload_n 2, 1) := by decide +kernel
theorem dX10_letter_34 : decode cX10_letter 34 = .ok (.iadd, 1) := by decide +kernel
theorem dX10_letter_35 : decode cX10_letter 35 = .ok (.iaload, 1) := by decide +kernel
theorem dX10_letter_36 : decode cX10_letter 36 = .ok (.goto 8, 3) := by decide +kernel
theorem dX10_letter_39 : decode cX10_letter 39 = .ok (.aload_n 0, 1) := by decide +kernel
theorem dX10_letter_40 : decode cX10_letter 40 = .ok (.iconst 1, 1) := by decide +kernel
theorem dX10_letter_41 : decode cX10_letter 41 = .ok (.invokevirtual 171, 3) := by decide +kernel
theorem dX10_letter_44 : decode cX10_letter 44 = .ok (.ireturn, 1) := by decide +kernel
theorem dX10_link_0 : decode cX10_link 0 = .ok (.aload_n 0, 1) := by decide +kernel
theorem dX10_link_1 : decode cX10_link 1 = .ok (.iconst 0, 1) := by decide +kernel
theorem dX10_link_2 : decode cX10_link 2 = .ok (.putfield 51, 3) := by decide +kernel
theorem dX10_link_5 : decode cX10_link 5 = .ok (.iload_n 1, 1) := by decide +kernel
theorem dX10_link_6 : decode cX10_link 6 = .ok (.iconst 0, 1) := by decide +kernel
theorem dX10_link_7 : decode cX10_link 7 = .ok (.aload_n 0, 1) := by decide +kernel
theorem dX10_link_8 : decode cX10_link 8 = .ok (.invokevirtual 95, 3) := by decide +kernel
theorem dX10_link_11 : decode cX10_link 11 = .ok (.iconst 1, 1) := by decide +kernel
theorem dX10_link_12 : decode cX10_link 12 = .ok (.isub, 1) := by decide +kernel
theorem dX10_link_13 : decode cX10_link 13 = .ok (.invokestatic 58, 3) := by decide +kernel
theorem dX10_link_16 : decode cX10_link 16 = .ok (.ifCond .eq 21, 3) := by decide +kernel
theorem dX10_link_19 : decode cX10_link 19 = .ok (.iload_n 2, 1) := by decide +kernel
theorem dX10_link_20 : decode cX10_link 20 = .ok (.iconst 0, 1) := by decide +kernel
theorem dX10_link_21 : decode cX10_link 21 = .ok (.iconst 4, 1) := by decide +kernel
theorem dX10_link_22 : decode cX10_link 22 = .ok (.invokestatic 58, 3) := by decide +kernel
theorem dX10_link_25 : decode cX10_link 25 = .ok (.ifCond .eq 12, 3) := by decide +kernel
theorem dX10_link_28 : decode cX10_link 28 = .ok (.aload_n 0, 1) := by decide +kernel
theorem dX10_link_29 : decode cX10_link 29 = .ok (.iload_n 1, 1) := by decide +kernel
theorem dX10_link_30 : decode cX10_link 30 = .ok (.iload_n 2, 1) := by decide +kernel
theorem dX10_link_31 : decode cX10_link 31 = .ok (.invokevirtual 92, 3) := by decide +kernel
theorem dX10_link_34 : decode cX10_link 34 = .ok (.goto 8, 3) := by decide +kernel
theorem dX10_link_37 : decode cX10_link 37 = .ok (.aload_n 0, 1) := by decide +kernel
theorem dX10_link_38 : decode cX10_link 38 = .ok (.iconst 1, 1) := by decide +kernel
theorem dX10_link_39 : decode cX10_link 39 = .ok (.invokevirtual 171, 3) := by decide +kernel
theorem dX10_link_42 : decode cX10_link 42 = .ok (.ireturn, 1) := by decide +kernel
theorem dX10_suit_0 : decode cX10_suit 0 = .ok (.aload_n 0, 1) := by decide +kernel
theorem dX10_suit_1 : decode cX10_suit 1 = .ok (.iconst 0, 1) := by decide +kernel
theorem dX10_suit_2 : decode cX10_suit 2 = .ok (.putfield 51, 3) := by decide +kernel
theorem dX10_suit_5 : decode cX10_suit 5 = .ok (.aload_n 0, 1) := by decide +kernel
theorem dX10_suit_6 : decode cX10_suit 6 = .ok (.iload_n 1, 1) := by decide +kernel
theorem dX10_suit_7 : decode cX10_suit 7 = .ok (.invokevirtual 177, 3) := by decide +kernel
theorem dX10_suit_10 : decode cX10_suit 10 = .ok (.ifCond .eq 13, 3) := by decide +kernel
theorem dX10_suit_13 : decode cX10_suit 13 = .ok (.iload_n 2, 1) := by decide +kernel
theorem dX10_suit_14 : decode cX10_suit 14 = .ok (.iconst 0, 1) := by decide +kernel
theorem dX10_suit_15 : decode cX10_suit 15 = .ok (.bipush 14, 2) := by decide +kernel
theorem dX10_suit_17 : decode cX10_suit 17 = .ok (.invokestatic 58, 3) := by decide +kernel
theorem dX10_suit_20 : decode cX10_suit 20 = .ok (.ifCond .ne 9, 3) := by decide +kernel
theorem dX10_suit_23 : decode cX10_suit 23 = .ok (.aload_n 0, 1) := by decide +kernel
theorem dX10_suit_24 : decode cX10_suit 24 = .ok (.iconst 1, 1) := by decide +kernel
theorem dX10_suit_25 : decode cX10_suit 25 = .ok (.invokevirtual 171, 3) := by decide +kernel
theorem dX10_suit_28 : decode cX10_suit 28 = .ok (.ireturn, 1) := by decide +kernel
theorem dX10_suit_29 : decode cX10_suit 29 = .ok (.iload_n 2, 1) := by decide +kernel
theorem dX10_suit_30 : decode cX10_suit 30 = .ok (.tableswitch 44 12 14 #[26, 32, 38], 26) := by decide +kernel
theorem dX10_suit_56 : decode cX10_suit 56 = .ok (.aload_n 0, 1) := by decide +kernel
theorem dX10_suit_57 : decode cX10_suit 57 = .ok (.iload_n 1, 1) := by decide +kernel
theorem dX10_suit_58 : decode cX10_suit 58 = .ok (.invokevirtual 76, 3) := by decide +kernel
theorem dX10_suit_61 : decode cX10_suit 61 = .ok (.ireturn, 1) := by decide +kernel
theorem dX10_suit_62 : decode cX10_suit 62 = .ok (.aload_n 0, 1) := by decide +kernel
theorem dX10_suit_63 : decode cX10_suit 63 = .ok (.iload_n 1, 1) := by decide +kernel
theorem dX10_suit_64 : decode cX10_suit 64 = .ok (.invokevirtual 89, 3) := by decide +kernel
theorem dX10_suit_67 : decode cX10_suit 67 = .ok (.ireturn, 1) := by decide +kernel
theorem dX10_suit_68 : decode cX10_suit 68 = .ok (.aload_n 0, 1) := by decide +kernel
theorem dX10_suit_69 : decode cX10_suit 69 = .ok (.iload_n 1, 1) := by decide +kernel
theorem dX10_suit_70 : decode cX10_suit 70 = .ok (.invokevirtual 125, 3) := by decide +kernel
theorem dX10_suit_73 : decode cX10_suit 73 = .ok (.ireturn, 1) := by decide +kernel
theorem dX10_suit_74 : decode cX10_suit 74 = .ok (.aload_n 0, 1) := by decide +kernel
theorem dX10_suit_75 : decode cX10_suit 75 = .ok (.iload_n 1, 1) := by decide +kernel
theorem dX10_suit_76 : decode cX10_suit 76 = .ok (.iload_n 2, 1) := by decide +kernel
theorem dX10_suit_77 : decode cX10_suit 77 = .ok (.invokevirtual 65, 3) := by decide +kernel
theorem dX10_suit_80 : decode cX10_suit 80 = .ok (.ireturn, 1) := by decide +kernel
theorem dX10_isBound_0 : decode cX10_isBound 0 = .ok (.aload_n 0, 1) := by decide +kernel
theorem dX10_isBound_1 : decode cX10_isBound 1 = .ok (.aload_n 0, 1) := by decide +kernel
theorem dX10_isBound_2 : decode cX10_isBound 2 = .ok (.iload_n 1, 1) := by decide +kernel
theorem dX10_isBound_3 : decode cX10_isBound 3 = .ok (.invokevirtual 177, 3) := by decide +kernel
theorem dX10_isBound_6 : decode cX10_isBound 6 = .ok (.ifCond .eq 20, 3) := by decide +kernel
theorem dX10_isBound_9 : decode cX10_isBound 9 = .ok (.iload_n 2, 1) := by decide +kernel
theorem dX10_isBound_10 : decode cX10_isBound 10 = .ok (.iconst 0, 1) := by decide +kernel
theorem dX10_isBound_11 : decode cX10_isBound 11 = .ok (.iconst 1, 1) := by decide +kernel
theorem dX10_isBound_12 : decode cX10_isBound 12 = .ok (.invokestatic 58, 3) := by decide +kernel
theorem dX10_isBound_15 : decode cX10_isBound 15 = .ok (.ifCond .eq 11, 3) := by decide +kernel
theorem dX10_isBound_18 : decode cX10_isBound 18 = .ok (.aload_n 0, 1) := by decide +kernel
theorem dX10_isBound_19 : decode cX10_isBound 19 = .ok (.iload_n 3, 1) := by decide +kernel
theorem dX10_isBound_20 : decode cX10_isBound 20 = .ok (.invokevirtual 174, 3) := by decide +kernel
theorem dX10_isBound_23 : decode cX10_isBound 23 = .ok (.ifCond .ne 7, 3) := by decide +kernel
theorem dX10_isBound_26 : decode cX10_isBound 26 = .ok (.iconst 1, 1) := by decide +kernel
theorem dX10_isBound_27 : decode cX10_isBound 27 = .ok (.goto 4, 3) := by decide +kernel
theorem dX10_isBound_30 : decode cX10_isBound 30 = .ok (.iconst 0, 1) := by decide +kernel
theorem dX10_isBound_31 : decode cX10_isBound 31 = .ok (.putfield 51, 3) := by decide +kernel
theorem dX10_isBound_34 : decode cX10_isBound 34 = .ok (.aload_n 0, 1) := by decide +kernel
theorem dX10_isBound_35 : decode cX10_isBound 35 = .ok (.getfield 51, 3) := by decide +kernel
theorem dX10_isBound_38 : decode cX10_isBound 38 = .ok (.ifCond .ne 28, 3) := by decide +kernel
theorem dX10_isBound_41 : decode cX10_isBound 41 = .ok (.aload_n 0, 1) := by decide +kernel
theorem dX10_isBound_42 : decode cX10_isBound 42 = .ok (.iload_n 1, 1) := by decide +kernel
theorem dX10_isBound_43 : decode cX10_isBound 43 = .ok (.invokevirtual 69, 3) := by decide +kernel
theorem dX10_isBound_46 : decode cX10_isBound 46 = .ok (.ifCond .eq 20, 3) := by decide +kernel
theorem dX10_isBound_49 : decode cX10_isBound 49 = .ok (.aload_n 0, 1) := by decide +kernel
theorem dX10_isBound_50 : decode cX10_isBound 50 = .ok (.iload_n 1, 1) := by decide +kernel
theorem dX10_isBound_51 : decode cX10_isBound 51 = .ok (.iload_n 2, 1) := by decide +kernel
theorem dX10_isBound_52 : decode cX10_isBound 52 = .ok (.invokevirtual 105, 3) := by decide +kernel
theorem dX10_isBound_55 : decode cX10_isBound 55 = .ok (.iload_n 3, 1) := by decide +kernel
theorem dX10_isBound_56 : decode cX10_isBound 56 = .ok (.invokestatic 98, 3) := by decide +kernel
theorem dX10_isBound_59 : decode cX10_isBound 59 = .ok (.ifCond .eq 7, 3) := by decide +kernel
theorem dX10_isBound_62 : decode cX10_isBound 62 = .ok (.iconst 1, 1) := by decide +kernel
theorem dX10_isBound_63 : decode cX10_isBound 63 = .ok (.goto 4, 3) := by decide +kernel
theorem dX10_isBound_66 : decode cX10_isBound 66 = .ok (.iconst 0, 1) := by decide +kernel
theorem dX10_isBound_67 : decode cX10_isBound 67 = .ok (.ireturn, 1) := by decide +kernel
theorem dX10_chain_0 : decode cX10_chain 0 = .ok (.aload_n 0, 1) := by decide +kernel
theorem dX10_chain_1 : decode cX10_chain 1 = .ok (.iconst 0, 1) := by decide +kernel
theorem dX10_chain_2 : decode cX10_chain 2 = .ok (.putfield 51, 3) := by decide +kernel
theorem dX10_chain_5 : decode cX10_chain 5 = .ok (.aload_n 0, 1) := by decide +kernel
theorem dX10_chain_6 : decode cX10_chain 6 = .ok (.iload_n 1, 1) := by decide +kernel
theorem dX10_chain_7 : decode cX10_chain 7 = .ok (.invokevirtual 177, 3) := by decide +kernel
theorem dX10_chain_10 : decode cX10_chain 10 = .ok (.ifCond .eq 20, 3) := by decide +kernel
theorem dX10_chain_13 : decode cX10_chain 13 = .ok (.iload_n 2, 1) := by decide +kernel
theorem dX10_chain_14 : decode cX10_chain 14 = .ok (.iconst 0, 1) := by decide +kernel
theorem dX10_chain_15 : decode cX10_chain 15 = .ok (.iconst 1, 1) := by decide +kernel
theorem dX10_chain_16 : decode cX10_chain 16 = .ok (.invokestatic 58, 3) := by decide +kernel
theorem dX10_chain_19 : decode cX10_chain 19 = .ok (.ifCond .eq 11, 3) := by decide +kernel
theorem dX10_chain_22 : decode cX10_chain 22 = .ok (.aload_n 0, 1) := by decide +kernel
theorem dX10_chain_23 : decode cX10_chain 23 = .ok (.iload_n 3, 1) := by decide +kernel
theorem dX10_chain_24 : decode cX10_chain 24 = .ok (.invokevirtual 174, 3) := by decide +kernel
theorem dX10_chain_27 : decode cX10_chain 27 = .ok (.ifCond .ne 9, 3) := by decide +kernel
theorem dX10_chain_30 : decode cX10_chain 30 = .ok (.aload_n 0, 1) := by decide +kernel
theorem dX10_chain_31 : decode cX10_chain 31 = .ok (.iconst 1, 1) := by decide +kernel
theorem dX10_chain_32 : decode cX10_chain 32 = .ok (.invokevirtual 171, 3) := by decide +kernel
theorem dX10_chain_35 : decode cX10_chain 35 = .ok (.ireturn, 1) := by decide +kernel
theorem dX10_chain_36 : decode cX10_chain 36 = .ok (.aload_n 0, 1) := by decide +kernel
theorem dX10_chain_37 : decode cX10_chain 37 = .ok (.iload_n 1, 1) := by decide +kernel
theorem dX10_chain_38 : decode cX10_chain 38 = .ok (.invokevirtual 69, 3) := by decide +kernel
theorem dX10_chain_41 : decode cX10_chain 41 = .ok (.ifCond .ne 5, 3) := by decide +kernel
theorem dX10_chain_44 : decode cX10_chain 44 = .ok (.iconst (-1), 1) := by decide +kernel
theorem dX10_chain_45 : decode cX10_chain 45 = .ok (.ireturn, 1) := by decide +kernel
theorem dX10_chain_46 : decode cX10_chain 46 = .ok (.aload_n 0, 1) := by decide +kernel
theorem dX10_chain_47 : decode cX10_chain 47 = .ok (.iload_n 1, 1) := by decide +kernel
theorem dX10_chain_48 : decode cX10_chain 48 = .ok (.iload_n 3, 1) := by decide +kernel
theorem dX10_chain_49 : decode cX10_chain 49 = .ok (.invokevirtual 180, 3) := by decide +kernel
theorem dX10_chain_52 : decode cX10_chain 52 = .ok (.aload_n 0, 1) := by decide +kernel
theorem dX10_chain_53 : decode cX10_chain 53 = .ok (.iload_n 1, 1) := by decide +kernel
theorem dX10_chain_54 : decode cX10_chain 54 = .ok (.iconst 0, 1) := by decide +kernel
theorem dX10_chain_55 : decode cX10_chain 55 = .ok (.iload_n 2, 1) := by decide +kernel
theorem dX10_chain_56 : decode cX10_chain 56 = .ok (.iadd, 1) := by decide +kernel
theorem dX10_chain_57 : decode cX10_chain 57 = .ok (.invokevirtual 65, 3) := by decide +kernel
theorem dX10_chain_60 : decode cX10_chain 60 = .ok (.istore 5, 2) := by decide +kernel
theorem dX10_chain_62 : decode cX10_chain 62 = .ok (.aload_n 0, 1) := by decide +kernel
theorem dX10_chain_63 : decode cX10_chain 63 = .ok (.getfield 25, 3) := by decide +kernel
theorem dX10_chain_66 : decode cX10_chain 66 = .ok (.iload 5, 2) := by decide +kernel
theorem dX10_chain_68 : decode cX10_chain 68 = .ok (.iaload, 1) := by decide +kernel
theorem dX10_chain_69 : decode cX10_chain 69 = .ok (.istore 6, 2) := by decide +kernel
theorem dX10_chain_71 : decode cX10_chain 71 = .ok (.iload 6, 2) := by decide +kernel
theorem dX10_chain_73 : decode cX10_chain 73 = .ok (.iconst (-1), 1) := by decide +kernel
theorem dX10_chain_74 : decode cX10_chain 74 = .ok (.if_icmp .eq 9, 3) := by decide +kernel
theorem dX10_chain_77 : decode cX10_chain 77 = .ok (.iload 4, 2) := by decide +kernel
theorem dX10_chain_79 : decode cX10_chain 79 = .ok (.iconst (-1), 1) := by decide +kernel
theorem dX10_chain_80 : decode cX10_chain 80 = .ok (.if_icmp .ne 6, 3) := by decide +kernel
theorem dX10_chain_83 : decode cX10_chain 83 = .ok (.iload 6, 2) := by decide +kernel
theorem dX10_chain_85 : decode cX10_chain 85 = .ok (.ireturn, 1) := by decide +kernel
theorem dX10_chain_86 : decode cX10_chain 86 = .ok (.iload 4, 2) := by decide +kernel
theorem dX10_chain_88 : decode cX10_chain 88 = .ok (.iconst 0, 1) := by decide +kernel
theorem dX10_chain_89 : decode cX10_chain 89 = .ok (.iload 6, 2) := by decide +kernel
theorem dX10_chain_91 : decode cX10_chain 91 = .ok (.iconst 1, 1) := by decide +kernel
theorem dX10_chain_92 : decode cX10_chain 92 = .ok (.isub, 1) := by decide +kernel
theorem dX10_chain_93 : decode cX10_chain 93 = .ok (.invokestatic 58, 3) := by decide +kernel
theorem dX10_chain_96 : decode cX10_chain 96 = .ok (.ifCond .ne 9, 3) := by decide +kernel
theorem dX10_chain_99 : decode cX10_chain 99 = .ok (.aload_n 0, 1) := by decide +kernel
theorem dX10_chain_100 : decode cX10_chain 100 = .ok (.iconst 1, 1) := by decide +kernel
theorem dX10_chain_101 : decode cX10_chain 101 = .ok (.invokevirtual 171, 3) := by decide +kernel
theorem dX10_chain_104 : decode cX10_chain 104 = .ok (.ireturn, 1) := by decide +kernel
theorem dX10_chain_105 : decode cX10_chain 105 = .ok (.iconst 0, 1) := by decide +kernel
theorem dX10_chain_106 : decode cX10_chain 106 = .ok (.istore 7, 2) := by decide +kernel
theorem dX10_chain_108 : decode cX10_chain 108 = .ok (.iload 7, 2) := by decide +kernel
theorem dX10_chain_110 : decode cX10_chain 110 = .ok (.iload 4, 2) := by decide +kernel
theorem dX10_chain_112 : decode cX10_chain 112 = .ok (.if_icmp .ge 23, 3) := by decide +kernel
theorem dX10_chain_115 : decode cX10_chain 115 = .ok (.aload_n 0, 1) := by decide +kernel
theorem dX10_chain_116 : decode cX10_chain 116 = .ok (.aload_n 0, 1) := by decide +kernel
theorem dX10_chain_117 : decode cX10_chain 117 = .ok (.iload_n 1, 1) := by decide +kernel
theorem dX10_chain_118 : decode cX10_chain 118 = .ok (.iload 5, 2) := by decide +kernel
theorem dX10_chain_120 : decode cX10_chain 120 = .ok (.invokevirtual 184, 3) := by decide +kernel
theorem dX10_chain_123 : decode cX10_chain 123 = .ok (.iconst 1, 1) := by decide +kernel
theorem dX10_chain_124 : decode cX10_chain 124 = .ok (.invokevirtual 92, 3) := by decide +kernel
theorem dX10_chain_127 : decode cX10_chain 127 = .ok (.istore 5, 2) := by decide +kernel
theorem dX10_chain_129 : decode cX10_chain 129 = .ok (.iinc 7 1, 3) := by decide +kernel
theorem dX10_chain_132 : decode cX10_chain 132 = .ok (.goto (-24), 3) := by decide +kernel
theorem dX10_chain_135 : decode cX10_chain 135 = .ok (.aload_n 0, 1) := by decide +kernel
theorem dX10_chain_136 : decode cX10_chain 136 = .ok (.iload_n 1, 1) := by decide +kernel
theorem dX10_chain_137 : decode cX10_chain 137 = .ok (.iload 5, 2) := by decide +kernel
theorem dX10_chain_139 : decode cX10_chain 139 = .ok (.invokevirtual 184, 3) := by decide +kernel
theorem dX10_chain_142 : decode cX10_chain 142 = .ok (.ireturn, 1) := by decide +kernel
theorem dX10_two_0 : decode cX10_two 0 = .ok (.aload_n 0, 1) := by decide +kernel
theorem dX10_two_1 : decode cX10_two 1 = .ok (.iconst 0, 1) := by decide +kernel
theorem dX10_two_2 : decode cX10_two 2 = .ok (.putfield 51, 3) := by decide +kernel
theorem dX10_two_5 : decode cX10_two 5 = .ok (.aload_n 0, 1) := by decide +kernel
theorem dX10_two_6 : decode cX10_two 6 = .ok (.iload_n 1, 1) := by decide +kernel
theorem dX10_two_7 : decode cX10_two 7 = .ok (.invokevirtual 177, 3) := by decide +kernel
theorem dX10_two_10 : decode cX10_two 10 = .ok (.ifCond .eq 20, 3) := by decide +kernel
theorem dX10_two_13 : decode cX10_two 13 = .ok (.aload_n 0, 1) := by decide +kernel
theorem dX10_two_14 : decode cX10_two 14 = .ok (.iload_n 2, 1) := by decide +kernel
theorem dX10_two_15 : decode cX10_two 15 = .ok (.invokevirtual 177, 3) := by decide +kernel
theorem dX10_two_18 : decode cX10_two 18 = .ok (.ifCond .eq 12, 3) := by decide +kernel
theorem dX10_two_21 : decode cX10_two 21 = .ok (.iload_n 3, 1) := by decide +kernel
theorem dX10_two_22 : decode cX10_two 22 = .ok (.iconst 0, 1) := by decide +kernel
theorem dX10_two_23 : decode cX10_two 23 = .ok (.iconst 5, 1) := by decide +kernel
theorem dX10_two_24 : decode cX10_two 24 = .ok (.invokestatic 58, 3) := by decide +kernel
theorem dX10_two_27 : decode cX10_two 27 = .ok (.ifCond .ne 9, 3) := by decide +kernel
theorem dX10_two_30 : decode cX10_two 30 = .ok (.aload_n 0, 1) := by decide +kernel
theorem dX10_two_31 : decode cX10_two 31 = .ok (.iconst 1, 1) := by decide +kernel
theorem dX10_two_32 : decode cX10_two 32 = .ok (.invokevirtual 171, 3) := by decide +kernel
theorem dX10_two_35 : decode cX10_two 35 = .ok (.ireturn, 1) := by decide +kernel
theorem dX10_two_36 : decode cX10_two 36 = .ok (.aload_n 0, 1) := by decide +kernel
theorem dX10_two_37 : decode cX10_two 37 = .ok (.invokevirtual 152, 3) := by decide +kernel
theorem dX10_two_40 : decode cX10_two 40 = .ok (.iload_n 3, 1) := by decide +kernel
theorem dX10_two_41 : decode cX10_two 41 = .ok (.tableswitch 109 0 4 #[35, 49, 64, 79, 94], 35) := by decide +kernel
theorem dX10_two_76 : decode cX10_two 76 = .ok (.aload_n 0, 1) := by decide +kernel
theorem dX10_two_77 : decode cX10_two 77 = .ok (.iload_n 1, 1) := by decide +kernel
theorem dX10_two_78 : decode cX10_two 78 = .ok (.iconst 3, 1) := by decide +kernel
theorem dX10_two_79 : decode cX10_two 79 = .ok (.invokevirtual 65, 3) := by decide +kernel
theorem dX10_two_82 : decode cX10_two 82 = .ok (.aload_n 0, 1) := by decide +kernel
theorem dX10_two_83 : decode cX10_two 83 = .ok (.iload_n 2, 1) := by decide +kernel
theorem dX10_two_84 : decode cX10_two 84 = .ok (.iconst 3, 1) := by decide +kernel
theorem dX10_two_85 : decode cX10_two 85 = .ok (.invokevirtual 65, 3) := by decide +kernel
theorem dX10_two_88 : decode cX10_two 88 = .ok (.iand, 1) := by decide +kernel
theorem dX10_two_89 : decode cX10_two 89 = .ok (.ireturn, 1) := by decide +kernel
theorem dX10_two_90 : decode cX10_two 90 = .ok (.aload_n 0, 1) := by decide +kernel
theorem dX10_two_91 : decode cX10_two 91 = .ok (.iload_n 1, 1) := by decide +kernel
theorem dX10_two_92 : decode cX10_two 92 = .ok (.iload_n 2, 1) := by decide +kernel
theorem dX10_two_93 : decode cX10_two 93 = .ok (.invokevirtual 119, 3) := by decide +kernel
theorem dX10_two_96 : decode cX10_two 96 = .ok (.ifCond .eq 7, 3) := by decide +kernel
theorem dX10_two_99 : decode cX10_two 99 = .ok (.iconst 1, 1) := by decide +kernel
theorem dX10_two_100 : decode cX10_two 100 = .ok (.goto 4, 3) := by decide +kernel
theorem dX10_two_103 : decode cX10_two 103 = .ok (.iconst 0, 1) := by decide +kernel
theorem dX10_two_104 : decode cX10_two 104 = .ok (.ireturn, 1) := by decide +kernel
theorem dX10_two_105 : decode cX10_two 105 = .ok (.aload_n 0, 1) := by decide +kernel
theorem dX10_two_106 : decode cX10_two 106 = .ok (.iload_n 1, 1) := by decide +kernel
theorem dX10_two_107 : decode cX10_two 107 = .ok (.iload_n 2, 1) := by decide +kernel
theorem dX10_two_108 : decode cX10_two 108 = .ok (.invokevirtual 122, 3) := by decide +kernel
theorem dX10_two_111 : decode cX10_two 111 = .ok (.ifCond .eq 7, 3) := by decide +kernel
theorem dX10_two_114 : decode cX10_two 114 = .ok (.iconst 1, 1) := by decide +kernel
theorem dX10_two_115 : decode cX10_two 115 = .ok (.goto 4, 3) := by decide +kernel
theorem dX10_two_118 : decode cX10_two 118 = .ok (.iconst 0, 1) := by decide +kernel
theorem dX10_two_119 : decode cX10_two 119 = .ok (.ireturn, 1) := by decide +kernel
theorem dX10_two_120 : decode cX10_two 120 = .ok (.aload_n 0, 1) := by decide +kernel
theorem dX10_two_121 : decode cX10_two 121 = .ok (.iload_n 1, 1) := by decide +kernel
theorem dX10_two_122 : decode cX10_two 122 = .ok (.iload_n 2, 1) := by decide +kernel
theorem dX10_two_123 : decode cX10_two 123 = .ok (.invokevirtual 116, 3) := by decide +kernel
theorem dX10_two_126 : decode cX10_two 126 = .ok (.ifCond .eq 7, 3) := by decide +kernel
theorem dX10_two_129 : decode cX10_two 129 = .ok (.iconst 1, 1) := by decide +kernel
theorem dX10_two_130 : decode cX10_two 130 = .ok (.goto 4, 3) := by decide +kernel
theorem dX10_two_133 : decode cX10_two 133 = .ok (.iconst 0, 1) := by decide +kernel
theorem dX10_two_134 : decode cX10_two 134 = .ok (.ireturn, 1) := by decide +kernel
theorem dX10_two_135 : decode cX10_two 135 = .ok (.aload_n 0, 1) := by decide +kernel
theorem dX10_two_136 : decode cX10_two 136 = .ok (.iload_n 1, 1) := by decide +kernel
theorem dX10_two_137 : decode cX10_two 137 = .ok (.iload_n 2, 1) := by decide +kernel
theorem dX10_two_138 : decode cX10_two 138 = .ok (.invokevirtual 187, 3) := by decide +kernel
theorem dX10_two_141 : decode cX10_two 141 = .ok (.ifCond .eq 7, 3) := by decide +kernel
theorem dX10_two_144 : decode cX10_two 144 = .ok (.iconst 1, 1) := by decide +kernel
theorem dX10_two_145 : decode cX10_two 145 = .ok (.goto 4, 3) := by decide +kernel
theorem dX10_two_148 : decode cX10_two 148 = .ok (.iconst 0, 1) := by decide +kernel
theorem dX10_two_149 : decode cX10_two 149 = .ok (.ireturn, 1) := by decide +kernel
theorem dX10_two_150 : decode cX10_two 150 = .ok (.aload_n 0, 1) := by decide +kernel
theorem dX10_two_151 : decode cX10_two 151 = .ok (.iload_n 1, 1) := by decide +kernel
theorem dX10_two_152 : decode cX10_two 152 = .ok (.iload_n 2, 1) := by decide +kernel
theorem dX10_two_153 : decode cX10_two 153 = .ok (.invokevirtual 155, 3) := by decide +kernel
theorem dX10_two_156 : decode cX10_two 156 = .ok (.ireturn, 1) := by decide +kernel
theorem dX10_barred_0 : decode cX10_barred 0 = .ok (.aload_n 0, 1) := by decide +kernel
theorem dX10_barred_1 : decode cX10_barred 1 = .ok (.iconst 0, 1) := by decide +kernel
theorem dX10_barred_2 : decode cX10_barred 2 = .ok (.putfield 51, 3) := by decide +kernel
theorem dX10_barred_5 : decode cX10_barred 5 = .ok (.aload_n 0, 1) := by decide +kernel
theorem dX10_barred_6 : decode cX10_barred 6 = .ok (.iload_n 1, 1) := by decide +kernel
theorem dX10_barred_7 : decode cX10_barred 7 = .ok (.invokevirtual 177, 3) := by decide +kernel
theorem dX10_barred_10 : decode cX10_barred 10 = .ok (.ifCond .ne 9, 3) := by decide +kernel
theorem dX10_barred_13 : decode cX10_barred 13 = .ok (.aload_n 0, 1) := by decide +kernel
theorem dX10_barred_14 : decode cX10_barred 14 = .ok (.iconst 1, 1) := by decide +kernel
theorem dX10_barred_15 : decode cX10_barred 15 = .ok (.invokevirtual 171, 3) := by decide +kernel
theorem dX10_barred_18 : decode cX10_barred 18 = .ok (.ireturn, 1) := by decide +kernel
theorem dX10_barred_19 : decode cX10_barred 19 = .ok (.aload_n 0, 1) := by decide +kernel
theorem dX10_barred_20 : decode cX10_barred 20 = .ok (.invokevirtual 152, 3) := by decide +kernel
theorem dX10_barred_23 : decode cX10_barred 23 = .ok (.aload_n 0, 1) := by decide +kernel
theorem dX10_barred_24 : decode cX10_barred 24 = .ok (.iload_n 1, 1) := by decide +kernel
theorem dX10_barred_25 : decode cX10_barred 25 = .ok (.invokevirtual 143, 3) := by decide +kernel
theorem dX10_barred_28 : decode cX10_barred 28 = .ok (.ireturn, 1) := by decide +kernel
theorem dX10_holdersOf_0 : decode cX10_holdersOf 0 = .ok (.iconst 0, 1) := by decide +kernel
theorem dX10_holdersOf_1 : decode cX10_holdersOf 1 = .ok (.istore_n 3, 1) := by decide +kernel
theorem dX10_holdersOf_2 : decode cX10_holdersOf 2 = .ok (.iconst 0, 1) := by decide +kernel
theorem dX10_holdersOf_3 : decode cX10_holdersOf 3 = .ok (.istore 4, 2) := by decide +kernel
theorem dX10_holdersOf_5 : decode cX10_holdersOf 5 = .ok (.iload 4, 2) := by decide +kernel
theorem dX10_holdersOf_7 : decode cX10_holdersOf 7 = .ok (.aload_n 0, 1) := by decide +kernel
theorem dX10_holdersOf_8 : decode cX10_holdersOf 8 = .ok (.invokevirtual 62, 3) := by decide +kernel
theorem dX10_holdersOf_11 : decode cX10_holdersOf 11 = .ok (.if_icmp .ge 28, 3) := by decide +kernel
theorem dX10_holdersOf_14 : decode cX10_holdersOf 14 = .ok (.iload_n 3, 1) := by decide +kernel
theorem dX10_holdersOf_15 : decode cX10_holdersOf 15 = .ok (.aload_n 0, 1) := by decide +kernel
theorem dX10_holdersOf_16 : decode cX10_holdersOf 16 = .ok (.iload_n 1, 1) := by decide +kernel
theorem dX10_holdersOf_17 : decode cX10_holdersOf 17 = .ok (.iload_n 2, 1) := by decide +kernel
theorem dX10_holdersOf_18 : decode cX10_holdersOf 18 = .ok (.iload 4, 2) := by decide +kernel
theorem dX10_holdersOf_20 : decode cX10_holdersOf 20 = .ok (.invokevirtual 134, 3) := by decide +kernel
theorem dX10_holdersOf_23 : decode cX10_holdersOf 23 = .ok (.ifCond .eq 7, 3) := by decide +kernel
theorem dX10_holdersOf_26 : decode cX10_holdersOf 26 = .ok (.iconst 1, 1) := by decide +kernel
theorem dX10_holdersOf_27 : decode cX10_holdersOf 27 = .ok (.goto 4, 3) := by decide +kernel
theorem dX10_holdersOf_30 : decode cX10_holdersOf 30 = .ok (.iconst 0, 1) := by decide +kernel
theorem dX10_holdersOf_31 : decode cX10_holdersOf 31 = .ok (.iadd, 1) := by decide +kernel
theorem dX10_holdersOf_32 : decode cX10_holdersOf 32 = .ok (.istore_n 3, 1) := by decide +kernel
theorem dX10_holdersOf_33 : decode cX10_holdersOf 33 = .ok (.iinc 4 1, 3) := by decide +kernel
theorem dX10_holdersOf_36 : decode cX10_holdersOf 36 = .ok (.goto (-31), 3) := by decide +kernel
theorem dX10_holdersOf_39 : decode cX10_holdersOf 39 = .ok (.iload_n 3, 1) := by decide +kernel
theorem dX10_holdersOf_40 : decode cX10_holdersOf 40 = .ok (.ireturn, 1) := by decide +kernel
theorem dX10_held_0 : decode cX10_held 0 = .ok (.aload_n 0, 1) := by decide +kernel
theorem dX10_held_1 : decode cX10_held 1 = .ok (.iconst 0, 1) := by decide +kernel
theorem dX10_held_2 : decode cX10_held 2 = .ok (.putfield 51, 3) := by decide +kernel
theorem dX10_held_5 : decode cX10_held 5 = .ok (.aload_n 0, 1) := by decide +kernel
theorem dX10_held_6 : decode cX10_held 6 = .ok (.iload_n 1, 1) := by decide +kernel
theorem dX10_held_7 : decode cX10_held 7 = .ok (.invokevirtual 177, 3) := by decide +kernel
theorem dX10_held_10 : decode cX10_held 10 = .ok (.ifCond .eq 34, 3) := by decide +kernel
theorem dX10_held_13 : decode cX10_held 13 = .ok (.iload_n 2, 1) := by decide +kernel
theorem dX10_held_14 : decode cX10_held 14 = .ok (.iconst 0, 1) := by decide +kernel
theorem dX10_held_15 : decode cX10_held 15 = .ok (.bipush 30, 2) := by decide +kernel
theorem dX10_held_17 : decode cX10_held 17 = .ok (.invokestatic 58, 3) := by decide +kernel
theorem dX10_held_20 : decode cX10_held 20 = .ok (.ifCond .eq 24, 3) := by decide +kernel
theorem dX10_held_23 : decode cX10_held 23 = .ok (.aload_n 0, 1) := by decide +kernel
theorem dX10_held_24 : decode cX10_held 24 = .ok (.iload_n 1, 1) := by decide +kernel
theorem dX10_held_25 : decode cX10_held 25 = .ok (.invokevirtual 137, 3) := by decide +kernel
theorem dX10_held_28 : decode cX10_held 28 = .ok (.iload_n 2, 1) := by decide +kernel
theorem dX10_held_29 : decode cX10_held 29 = .ok (.invokestatic 98, 3) := by decide +kernel
theorem dX10_held_32 : decode cX10_held 32 = .ok (.ifCond .eq 12, 3) := by decide +kernel
theorem dX10_held_35 : decode cX10_held 35 = .ok (.iload_n 3, 1) := by decide +kernel
theorem dX10_held_36 : decode cX10_held 36 = .ok (.iconst 0, 1) := by decide +kernel
theorem dX10_held_37 : decode cX10_held 37 = .ok (.iconst 2, 1) := by decide +kernel
theorem dX10_held_38 : decode cX10_held 38 = .ok (.invokestatic 58, 3) := by decide +kernel
theorem dX10_held_41 : decode cX10_held 41 = .ok (.ifCond .ne 9, 3) := by decide +kernel
theorem dX10_held_44 : decode cX10_held 44 = .ok (.aload_n 0, 1) := by decide +kernel
theorem dX10_held_45 : decode cX10_held 45 = .ok (.iconst 1, 1) := by decide +kernel
theorem dX10_held_46 : decode cX10_held 46 = .ok (.invokevirtual 171, 3) := by decide +kernel
theorem dX10_held_49 : decode cX10_held 49 = .ok (.ireturn, 1) := by decide +kernel
theorem dX10_held_50 : decode cX10_held 50 = .ok (.aload_n 0, 1) := by decide +kernel
theorem dX10_held_51 : decode cX10_held 51 = .ok (.invokevirtual 152, 3) := by decide +kernel
theorem dX10_held_54 : decode cX10_held 54 = .ok (.aload_n 0, 1) := by decide +kernel
theorem dX10_held_55 : decode cX10_held 55 = .ok (.iload_n 1, 1) := by decide +kernel
theorem dX10_held_56 : decode cX10_held 56 = .ok (.iload_n 2, 1) := by decide +kernel
theorem dX10_held_57 : decode cX10_held 57 = .ok (.invokevirtual 140, 3) := by decide +kernel
theorem dX10_held_60 : decode cX10_held 60 = .ok (.istore 4, 2) := by decide +kernel
theorem dX10_held_62 : decode cX10_held 62 = .ok (.iload_n 3, 1) := by decide +kernel
theorem dX10_held_63 : decode cX10_held 63 = .ok (.iconst 2, 1) := by decide +kernel
theorem dX10_held_64 : decode cX10_held 64 = .ok (.if_icmp .ne 10, 3) := by decide +kernel
theorem dX10_held_67 : decode cX10_held 67 = .ok (.aload_n 0, 1) := by decide +kernel
theorem dX10_held_68 : decode cX10_held 68 = .ok (.iload_n 1, 1) := by decide +kernel
theorem dX10_held_69 : decode cX10_held 69 = .ok (.iload_n 2, 1) := by decide +kernel
theorem dX10_held_70 : decode cX10_held 70 = .ok (.invokevirtual 190, 3) := by decide +kernel
theorem dX10_held_73 : decode cX10_held 73 = .ok (.ireturn, 1) := by decide +kernel
theorem dX10_held_74 : decode cX10_held 74 = .ok (.iload 4, 2) := by decide +kernel
theorem dX10_held_76 : decode cX10_held 76 = .ok (.iconst (-1), 1) := by decide +kernel
theorem dX10_held_77 : decode cX10_held 77 = .ok (.if_icmp .eq 7, 3) := by decide +kernel
theorem dX10_held_80 : decode cX10_held 80 = .ok (.iload_n 3, 1) := by decide +kernel
theorem dX10_held_81 : decode cX10_held 81 = .ok (.ifCond .ne 8, 3) := by decide +kernel
theorem dX10_held_84 : decode cX10_held 84 = .ok (.iload 4, 2) := by decide +kernel
theorem dX10_held_86 : decode cX10_held 86 = .ok (.goto 18, 3) := by decide +kernel
theorem dX10_held_89 : decode cX10_held 89 = .ok (.aload_n 0, 1) := by decide +kernel
theorem dX10_held_90 : decode cX10_held 90 = .ok (.iload 4, 2) := by decide +kernel
theorem dX10_held_92 : decode cX10_held 92 = .ok (.iload_n 2, 1) := by decide +kernel
theorem dX10_held_93 : decode cX10_held 93 = .ok (.invokevirtual 128, 3) := by decide +kernel
theorem dX10_held_96 : decode cX10_held 96 = .ok (.ifCond .eq 7, 3) := by decide +kernel
theorem dX10_held_99 : decode cX10_held 99 = .ok (.iconst 1, 1) := by decide +kernel
theorem dX10_held_100 : decode cX10_held 100 = .ok (.goto 4, 3) := by decide +kernel
theorem dX10_held_103 : decode cX10_held 103 = .ok (.iconst 0, 1) := by decide +kernel
theorem dX10_held_104 : decode cX10_held 104 = .ok (.ireturn, 1) := by decide +kernel
theorem dX10_issues_0 : decode cX10_issues 0 = .ok (.aload_n 0, 1) := by decide +kernel
theorem dX10_issues_1 : decode cX10_issues 1 = .ok (.iconst 0, 1) := by decide +kernel
theorem dX10_issues_2 : decode cX10_issues 2 = .ok (.putfield 51, 3) := by decide +kernel
theorem dX10_issues_5 : decode cX10_issues 5 = .ok (.aload_n 0, 1) := by decide +kernel
theorem dX10_issues_6 : decode cX10_issues 6 = .ok (.iload_n 1, 1) := by decide +kernel
theorem dX10_issues_7 : decode cX10_issues 7 = .ok (.invokevirtual 177, 3) := by decide +kernel
theorem dX10_issues_10 : decode cX10_issues 10 = .ok (.ifCond .eq 12, 3) := by decide +kernel
theorem dX10_issues_13 : decode cX10_issues 13 = .ok (.iload_n 2, 1) := by decide +kernel
theorem dX10_issues_14 : decode cX10_issues 14 = .ok (.iconst 0, 1) := by decide +kernel
theorem dX10_issues_15 : decode cX10_issues 15 = .ok (.iconst 1, 1) := by decide +kernel
theorem dX10_issues_16 : decode cX10_issues 16 = .ok (.invokestatic 58, 3) := by decide +kernel
theorem dX10_issues_19 : decode cX10_issues 19 = .ok (.ifCond .ne 9, 3) := by decide +kernel
theorem dX10_issues_22 : decode cX10_issues 22 = .ok (.aload_n 0, 1) := by decide +kernel
theorem dX10_issues_23 : decode cX10_issues 23 = .ok (.iconst 1, 1) := by decide +kernel
theorem dX10_issues_24 : decode cX10_issues 24 = .ok (.invokevirtual 171, 3) := by decide +kernel
theorem dX10_issues_27 : decode cX10_issues 27 = .ok (.ireturn, 1) := by decide +kernel
theorem dX10_issues_28 : decode cX10_issues 28 = .ok (.aload_n 0, 1) := by decide +kernel
theorem dX10_issues_29 : decode cX10_issues 29 = .ok (.invokevirtual 152, 3) := by decide +kernel
theorem dX10_issues_32 : decode cX10_issues 32 = .ok (.aload_n 0, 1) := by decide +kernel
theorem dX10_issues_33 : decode cX10_issues 33 = .ok (.iload_n 1, 1) := by decide +kernel
theorem dX10_issues_34 : decode cX10_issues 34 = .ok (.invokevirtual 146, 3) := by decide +kernel
theorem dX10_issues_37 : decode cX10_issues 37 = .ok (.istore_n 3, 1) := by decide +kernel
theorem dX10_issues_38 : decode cX10_issues 38 = .ok (.iload_n 2, 1) := by decide +kernel
theorem dX10_issues_39 : decode cX10_issues 39 = .ok (.ifCond .ne 7, 3) := by decide +kernel
theorem dX10_issues_42 : decode cX10_issues 42 = .ok (.iload_n 3, 1) := by decide +kernel
theorem dX10_issues_43 : decode cX10_issues 43 = .ok (.goto 12, 3) := by decide +kernel
theorem dX10_issues_46 : decode cX10_issues 46 = .ok (.aload_n 0, 1) := by decide +kernel
theorem dX10_issues_47 : decode cX10_issues 47 = .ok (.iload_n 1, 1) := by decide +kernel
theorem dX10_issues_48 : decode cX10_issues 48 = .ok (.invokevirtual 137, 3) := by decide +kernel
theorem dX10_issues_51 : decode cX10_issues 51 = .ok (.iload_n 3, 1) := by decide +kernel
theorem dX10_issues_52 : decode cX10_issues 52 = .ok (.iconst (-1), 1) := by decide +kernel
theorem dX10_issues_53 : decode cX10_issues 53 = .ok (.ixor, 1) := by decide +kernel
theorem dX10_issues_54 : decode cX10_issues 54 = .ok (.iand, 1) := by decide +kernel
theorem dX10_issues_55 : decode cX10_issues 55 = .ok (.ireturn, 1) := by decide +kernel
theorem dX10_forced_0 : decode cX10_forced 0 = .ok (.aload_n 0, 1) := by decide +kernel
theorem dX10_forced_1 : decode cX10_forced 1 = .ok (.iconst 0, 1) := by decide +kernel
theorem dX10_forced_2 : decode cX10_forced 2 = .ok (.putfield 51, 3) := by decide +kernel
theorem dX10_forced_5 : decode cX10_forced 5 = .ok (.aload_n 0, 1) := by decide +kernel
theorem dX10_forced_6 : decode cX10_forced 6 = .ok (.iload_n 1, 1) := by decide +kernel
theorem dX10_forced_7 : decode cX10_forced 7 = .ok (.invokevirtual 177, 3) := by decide +kernel
theorem dX10_forced_10 : decode cX10_forced 10 = .ok (.ifCond .ne 9, 3) := by decide +kernel
theorem dX10_forced_13 : decode cX10_forced 13 = .ok (.aload_n 0, 1) := by decide +kernel
theorem dX10_forced_14 : decode cX10_forced 14 = .ok (.iconst 1, 1) := by decide +kernel
theorem dX10_forced_15 : decode cX10_forced 15 = .ok (.invokevirtual 171, 3) := by decide +kernel
theorem dX10_forced_18 : decode cX10_forced 18 = .ok (.ireturn, 1) := by decide +kernel
theorem dX10_forced_19 : decode cX10_forced 19 = .ok (.aload_n 0, 1) := by decide +kernel
theorem dX10_forced_20 : decode cX10_forced 20 = .ok (.invokevirtual 152, 3) := by decide +kernel
theorem dX10_forced_23 : decode cX10_forced 23 = .ok (.aload_n 0, 1) := by decide +kernel
theorem dX10_forced_24 : decode cX10_forced 24 = .ok (.iload_n 1, 1) := by decide +kernel
theorem dX10_forced_25 : decode cX10_forced 25 = .ok (.invokevirtual 193, 3) := by decide +kernel
theorem dX10_forced_28 : decode cX10_forced 28 = .ok (.ireturn, 1) := by decide +kernel
theorem dX10_latest_0 : decode cX10_latest 0 = .ok (.aload_n 0, 1) := by decide +kernel
theorem dX10_latest_1 : decode cX10_latest 1 = .ok (.iconst 0, 1) := by decide +kernel
theorem dX10_latest_2 : decode cX10_latest 2 = .ok (.putfield 51, 3) := by decide +kernel
theorem dX10_latest_5 : decode cX10_latest 5 = .ok (.aload_n 0, 1) := by decide +kernel
theorem dX10_latest_6 : decode cX10_latest 6 = .ok (.iload_n 1, 1) := by decide +kernel
theorem dX10_latest_7 : decode cX10_latest 7 = .ok (.invokevirtual 174, 3) := by decide +kernel
theorem dX10_latest_10 : decode cX10_latest 10 = .ok (.ifCond .ne 9, 3) := by decide +kernel
theorem dX10_latest_13 : decode cX10_latest 13 = .ok (.aload_n 0, 1) := by decide +kernel
theorem dX10_latest_14 : decode cX10_latest 14 = .ok (.iconst 1, 1) := by decide +kernel
theorem dX10_latest_15 : decode cX10_latest 15 = .ok (.invokevirtual 171, 3) := by decide +kernel
theorem dX10_latest_18 : decode cX10_latest 18 = .ok (.ireturn, 1) := by decide +kernel
theorem dX10_latest_19 : decode cX10_latest 19 = .ok (.aload_n 0, 1) := by decide +kernel
theorem dX10_latest_20 : decode cX10_latest 20 = .ok (.invokevirtual 152, 3) := by decide +kernel
theorem dX10_latest_23 : decode cX10_latest 23 = .ok (.iconst (-1), 1) := by decide +kernel
theorem dX10_latest_24 : decode cX10_latest 24 = .ok (.istore_n 2, 1) := by decide +kernel
theorem dX10_latest_25 : decode cX10_latest 25 = .ok (.iconst 0, 1) := by decide +kernel
theorem dX10_latest_26 : decode cX10_latest 26 = .ok (.istore_n 3, 1) := by decide +kernel
theorem dX10_latest_27 : decode cX10_latest 27 = .ok (.iload_n 3, 1) := by decide +kernel
theorem dX10_latest_28 : decode cX10_latest 28 = .ok (.aload_n 0, 1) := by decide +kernel
theorem dX10_latest_29 : decode cX10_latest 29 = .ok (.invokevirtual 62, 3) := by decide +kernel
theorem dX10_latest_32 : decode cX10_latest 32 = .ok (.if_icmp .ge 61, 3) := by decide +kernel
theorem dX10_latest_35 : decode cX10_latest 35 = .ok (.aload_n 0, 1) := by decide +kernel
theorem dX10_latest_36 : decode cX10_latest 36 = .ok (.iload_n 3, 1) := by decide +kernel
theorem dX10_latest_37 : decode cX10_latest 37 = .ok (.invokevirtual 69, 3) := by decide +kernel
theorem dX10_latest_40 : decode cX10_latest 40 = .ok (.ifCond .eq 47, 3) := by decide +kernel
theorem dX10_latest_43 : decode cX10_latest 43 = .ok (.aload_n 0, 1) := by decide +kernel
theorem dX10_latest_44 : decode cX10_latest 44 = .ok (.iload_n 3, 1) := by decide +kernel
theorem dX10_latest_45 : decode cX10_latest 45 = .ok (.invokevirtual 86, 3) := by decide +kernel
theorem dX10_latest_48 : decode cX10_latest 48 = .ok (.ifCond .ne 39, 3) := by decide +kernel
theorem dX10_latest_51 : decode cX10_latest 51 = .ok (.aload_n 0, 1) := by decide +kernel
theorem dX10_latest_52 : decode cX10_latest 52 = .ok (.iload_n 3, 1) := by decide +kernel
theorem dX10_latest_53 : decode cX10_latest 53 = .ok (.iload_n 1, 1) := by decide +kernel
theorem dX10_latest_54 : decode cX10_latest 54 = .ok (.invokevirtual 131, 3) := by decide +kernel
theorem dX10_latest_57 : decode cX10_latest 57 = .ok (.ifCond .ne 6, 3) := by decide +kernel
theorem dX10_latest_60 : decode cX10_latest 60 = .ok (.goto 27, 3) := by decide +kernel
theorem dX10_latest_63 : decode cX10_latest 63 = .ok (.iload_n 2, 1) := by decide +kernel
theorem dX10_latest_64 : decode cX10_latest 64 = .ok (.iconst (-1), 1) := by decide +kernel
theorem dX10_latest_65 : decode cX10_latest 65 = .ok (.if_icmp .eq 20, 3) := by decide +kernel
theorem dX10_latest_68 : decode cX10_latest 68 = .ok (.aload_n 0, 1) := by decide +kernel
theorem dX10_latest_69 : decode cX10_latest 69 = .ok (.iload_n 3, 1) := by decide +kernel
theorem dX10_latest_70 : decode cX10_latest 70 = .ok (.bipush 6, 2) := by decide +kernel
theorem dX10_latest_72 : decode cX10_latest 72 = .ok (.invokevirtual 65, 3) := by decide +kernel
theorem dX10_latest_75 : decode cX10_latest 75 = .ok (.aload_n 0, 1) := by decide +kernel
theorem dX10_latest_76 : decode cX10_latest 76 = .ok (.iload_n 2, 1) := by decide +kernel
theorem dX10_latest_77 : decode cX10_latest 77 = .ok (.bipush 6, 2) := by decide +kernel
theorem dX10_latest_79 : decode cX10_latest 79 = .ok (.invokevirtual 65, 3) := by decide +kernel
theorem dX10_latest_82 : decode cX10_latest 82 = .ok (.if_icmp .lt 5, 3) := by decide +kernel
theorem dX10_latest_85 : decode cX10_latest 85 = .ok (.iload_n 3, 1) := by decide +kernel
theorem dX10_latest_86 : decode cX10_latest 86 = .ok (.istore_n 2, 1) := by decide +kernel
theorem dX10_latest_87 : decode cX10_latest 87 = .ok (.iinc 3 1, 3) := by decide +kernel
theorem dX10_latest_90 : decode cX10_latest 90 = .ok (.goto (-63), 3) := by decide +kernel
theorem dX10_latest_93 : decode cX10_latest 93 = .ok (.iload_n 2, 1) := by decide +kernel
theorem dX10_latest_94 : decode cX10_latest 94 = .ok (.ireturn, 1) := by decide +kernel
theorem dX10_against_0 : decode cX10_against 0 = .ok (.aload_n 0, 1) := by decide +kernel
theorem dX10_against_1 : decode cX10_against 1 = .ok (.iconst 0, 1) := by decide +kernel
theorem dX10_against_2 : decode cX10_against 2 = .ok (.putfield 51, 3) := by decide +kernel
theorem dX10_against_5 : decode cX10_against 5 = .ok (.iload_n 1, 1) := by decide +kernel
theorem dX10_against_6 : decode cX10_against 6 = .ok (.iconst 0, 1) := by decide +kernel
theorem dX10_against_7 : decode cX10_against 7 = .ok (.bipush 30, 2) := by decide +kernel
theorem dX10_against_9 : decode cX10_against 9 = .ok (.invokestatic 58, 3) := by decide +kernel
theorem dX10_against_12 : decode cX10_against 12 = .ok (.ifCond .ne 9, 3) := by decide +kernel
theorem dX10_against_15 : decode cX10_against 15 = .ok (.aload_n 0, 1) := by decide +kernel
theorem dX10_against_16 : decode cX10_against 16 = .ok (.iconst 1, 1) := by decide +kernel
theorem dX10_against_17 : decode cX10_against 17 = .ok (.invokevirtual 171, 3) := by decide +kernel
theorem dX10_against_20 : decode cX10_against 20 = .ok (.ireturn, 1) := by decide +kernel
theorem dX10_against_21 : decode cX10_against 21 = .ok (.aload_n 0, 1) := by decide +kernel
theorem dX10_against_22 : decode cX10_against 22 = .ok (.invokevirtual 152, 3) := by decide +kernel
theorem dX10_against_25 : decode cX10_against 25 = .ok (.iconst 0, 1) := by decide +kernel
theorem dX10_against_26 : decode cX10_against 26 = .ok (.istore_n 2, 1) := by decide +kernel
theorem dX10_against_27 : decode cX10_against 27 = .ok (.iconst 0, 1) := by decide +kernel
theorem dX10_against_28 : decode cX10_against 28 = .ok (.istore_n 3, 1) := by decide +kernel
theorem dX10_against_29 : decode cX10_against 29 = .ok (.iload_n 3, 1) := by decide +kernel
theorem dX10_against_30 : decode cX10_against 30 = .ok (.aload_n 0, 1) := by decide +kernel
theorem dX10_against_31 : decode cX10_against 31 = .ok (.invokevirtual 62, 3) := by decide +kernel
theorem dX10_against_34 : decode cX10_against 34 = .ok (.if_icmp .ge 43, 3) := by decide +kernel
theorem dX10_against_37 : decode cX10_against 37 = .ok (.aload_n 0, 1) := by decide +kernel
theorem dX10_against_38 : decode cX10_against 38 = .ok (.iload_n 3, 1) := by decide +kernel
theorem dX10_against_39 : decode cX10_against 39 = .ok (.invokevirtual 125, 3) := by decide +kernel
theorem dX10_against_42 : decode cX10_against 42 = .ok (.iload_n 1, 1) := by decide +kernel
theorem dX10_against_43 : decode cX10_against 43 = .ok (.invokestatic 98, 3) := by decide +kernel
theorem dX10_against_46 : decode cX10_against 46 = .ok (.ifCond .eq 25, 3) := by decide +kernel
theorem dX10_against_49 : decode cX10_against 49 = .ok (.iload_n 2, 1) := by decide +kernel
theorem dX10_against_50 : decode cX10_against 50 = .ok (.aload_n 0, 1) := by decide +kernel
theorem dX10_against_51 : decode cX10_against 51 = .ok (.getfield 22, 3) := by decide +kernel
theorem dX10_against_54 : decode cX10_against 54 = .ok (.iconst 2, 1) := by decide +kernel
theorem dX10_against_55 : decode cX10_against 55 = .ok (.iload_n 3, 1) := by decide +kernel
theorem dX10_against_56 : decode cX10_against 56 = .ok (.imul, 1) := by decide +kernel
theorem dX10_against_57 : decode cX10_against 57 = .ok (.iaload, 1) := by decide +kernel
theorem dX10_against_58 : decode cX10_against 58 = .ok (.aload_n 0, 1) := by decide +kernel
theorem dX10_against_59 : decode cX10_against 59 = .ok (.getfield 22, 3) := by decide +kernel
theorem dX10_against_62 : decode cX10_against 62 = .ok (.iconst 2, 1) := by decide +kernel
theorem dX10_against_63 : decode cX10_against 63 = .ok (.iload_n 3, 1) := by decide +kernel
theorem dX10_against_64 : decode cX10_against 64 = .ok (.imul, 1) := by decide +kernel
theorem dX10_against_65 : decode cX10_against 65 = .ok (.iconst 1, 1) := by decide +kernel
theorem dX10_against_66 : decode cX10_against 66 = .ok (.iadd, 1) := by decide +kernel
theorem dX10_against_67 : decode cX10_against 67 = .ok (.iaload, 1) := by decide +kernel
theorem dX10_against_68 : decode cX10_against 68 = .ok (.ior, 1) := by decide +kernel
theorem dX10_against_69 : decode cX10_against 69 = .ok (.ior, 1) := by decide +kernel
theorem dX10_against_70 : decode cX10_against 70 = .ok (.istore_n 2, 1) := by decide +kernel
theorem dX10_against_71 : decode cX10_against 71 = .ok (.iinc 3 1, 3) := by decide +kernel
theorem dX10_against_74 : decode cX10_against 74 = .ok (.goto (-45), 3) := by decide +kernel
theorem dX10_against_77 : decode cX10_against 77 = .ok (.iload_n 2, 1) := by decide +kernel
theorem dX10_against_78 : decode cX10_against 78 = .ok (.ireturn, 1) := by decide +kernel
theorem dX10_layThen_0 : decode cX10_layThen 0 = .ok (.iconst 0, 1) := by decide +kernel
theorem dX10_layThen_1 : decode cX10_layThen 1 = .ok (.istore_n 1, 1) := by decide +kernel
theorem dX10_layThen_2 : decode cX10_layThen 2 = .ok (.iload_n 1, 1) := by decide +kernel
theorem dX10_layThen_3 : decode cX10_layThen 3 = .ok (.aload_n 0, 1) := by decide +kernel
theorem dX10_layThen_4 : decode cX10_layThen 4 = .ok (.invokevirtual 62, 3) := by decide +kernel
theorem dX10_layThen_7 : decode cX10_layThen 7 = .ok (.if_icmp .ge 45, 3) := by decide +kernel
theorem dX10_layThen_10 : decode cX10_layThen 10 = .ok (.aload_n 0, 1) := by decide +kernel
theorem dX10_layThen_11 : decode cX10_layThen 11 = .ok (.getfield 28, 3) := by decide +kernel
theorem dX10_layThen_14 : decode cX10_layThen 14 = .ok (.iload_n 1, 1) := by decide +kernel
theorem dX10_layThen_15 : decode cX10_layThen 15 = .ok (.aload_n 0, 1) := by decide +kernel
theorem dX10_layThen_16 : decode cX10_layThen 16 = .ok (.iload_n 1, 1) := by decide +kernel
theorem dX10_layThen_17 : decode cX10_layThen 17 = .ok (.invokevirtual 143, 3) := by decide +kernel
theorem dX10_layThen_20 : decode cX10_layThen 20 = .ok (.iastore, 1) := by decide +kernel
theorem dX10_layThen_21 : decode cX10_layThen 21 = .ok (.aload_n 0, 1) := by decide +kernel
theorem dX10_layThen_22 : decode cX10_layThen 22 = .ok (.getfield 31, 3) := by decide +kernel
theorem dX10_layThen_25 : decode cX10_layThen 25 = .ok (.iload_n 1, 1) := by decide +kernel
theorem dX10_layThen_26 : decode cX10_layThen 26 = .ok (.aload_n 0, 1) := by decide +kernel
theorem dX10_layThen_27 : decode cX10_layThen 27 = .ok (.iload_n 1, 1) := by decide +kernel
theorem dX10_layThen_28 : decode cX10_layThen 28 = .ok (.invokevirtual 146, 3) := by decide +kernel
theorem dX10_layThen_31 : decode cX10_layThen 31 = .ok (.invokestatic 83, 3) := by decide +kernel
theorem dX10_layThen_34 : decode cX10_layThen 34 = .ok (.iastore, 1) := by decide +kernel
theorem dX10_layThen_35 : decode cX10_layThen 35 = .ok (.aload_n 0, 1) := by decide +kernel
theorem dX10_layThen_36 : decode cX10_layThen 36 = .ok (.getfield 34, 3) := by decide +kernel
theorem dX10_layThen_39 : decode cX10_layThen 39 = .ok (.iload_n 1, 1) := by decide +kernel
theorem dX10_layThen_40 : decode cX10_layThen 40 = .ok (.aload_n 0, 1) := by decide +kernel
theorem dX10_layThen_41 : decode cX10_layThen 41 = .ok (.iload_n 1, 1) := by decide +kernel
theorem dX10_layThen_42 : decode cX10_layThen 42 = .ok (.invokevirtual 193, 3) := by decide +kernel
theorem dX10_layThen_45 : decode cX10_layThen 45 = .ok (.iastore, 1) := by decide +kernel
theorem dX10_layThen_46 : decode cX10_layThen 46 = .ok (.iinc 1 1, 3) := by decide +kernel
theorem dX10_layThen_49 : decode cX10_layThen 49 = .ok (.goto (-47), 3) := by decide +kernel
theorem dX10_layThen_52 : decode cX10_layThen 52 = .ok (.return_, 1) := by decide +kernel
theorem dX10_changed_0 : decode cX10_changed 0 = .ok (.iconst 0, 1) := by decide +kernel
theorem dX10_changed_1 : decode cX10_changed 1 = .ok (.istore_n 2, 1) := by decide +kernel
theorem dX10_changed_2 : decode cX10_changed 2 = .ok (.iconst 0, 1) := by decide +kernel
theorem dX10_changed_3 : decode cX10_changed 3 = .ok (.istore_n 3, 1) := by decide +kernel
theorem dX10_changed_4 : decode cX10_changed 4 = .ok (.iload_n 3, 1) := by decide +kernel
theorem dX10_changed_5 : decode cX10_changed 5 = .ok (.aload_n 0, 1) := by decide +kernel
theorem dX10_changed_6 : decode cX10_changed 6 = .ok (.invokevirtual 62, 3) := by decide +kernel
theorem dX10_changed_9 : decode cX10_changed 9 = .ok (.if_icmp .ge 131, 3) := by decide +kernel
theorem dX10_changed_12 : decode cX10_changed 12 = .ok (.iconst 0, 1) := by decide +kernel
theorem dX10_changed_13 : decode cX10_changed 13 = .ok (.istore 4, 2) := by decide +kernel
theorem dX10_changed_15 : decode cX10_changed 15 = .ok (.iload_n 1, 1) := by decide +kernel
theorem dX10_changed_16 : decode cX10_changed 16 = .ok (.lookupswitch 82 #[(0, 28), (1, 55)], 28) := by decide +kernel
theorem dX10_changed_44 : decode cX10_changed 44 = .ok (.aload_n 0, 1) := by decide +kernel
theorem dX10_changed_45 : decode cX10_changed 45 = .ok (.getfield 28, 3) := by decide +kernel
theorem dX10_changed_48 : decode cX10_changed 48 = .ok (.iload_n 3, 1) := by decide +kernel
theorem dX10_changed_49 : decode cX10_changed 49 = .ok (.iaload, 1) := by decide +kernel
theorem dX10_changed_50 : decode cX10_changed 50 = .ok (.ifCond .eq 15, 3) := by decide +kernel
theorem dX10_changed_53 : decode cX10_changed 53 = .ok (.aload_n 0, 1) := by decide +kernel
theorem dX10_changed_54 : decode cX10_changed 54 = .ok (.iload_n 3, 1) := by decide +kernel
theorem dX10_changed_55 : decode cX10_changed 55 = .ok (.invokevirtual 143, 3) := by decide +kernel
theorem dX10_changed_58 : decode cX10_changed 58 = .ok (.ifCond .ne 7, 3) := by decide +kernel
theorem dX10_changed_61 : decode cX10_changed 61 = .ok (.iconst 1, 1) := by decide +kernel
theorem dX10_changed_62 : decode cX10_changed 62 = .ok (.goto 4, 3) := by decide +kernel
theorem dX10_changed_65 : decode cX10_changed 65 = .ok (.iconst 0, 1) := by decide +kernel
theorem dX10_changed_66 : decode cX10_changed 66 = .ok (.istore 4, 2) := by decide +kernel
theorem dX10_changed_68 : decode cX10_changed 68 = .ok (.goto 51, 3) := by decide +kernel
theorem dX10_changed_71 : decode cX10_changed 71 = .ok (.aload_n 0, 1) := by decide +kernel
theorem dX10_changed_72 : decode cX10_changed 72 = .ok (.iload_n 3, 1) := by decide +kernel
theorem dX10_changed_73 : decode cX10_changed 73 = .ok (.invokevirtual 146, 3) := by decide +kernel
theorem dX10_changed_76 : decode cX10_changed 76 = .ok (.invokestatic 83, 3) := by decide +kernel
theorem dX10_changed_79 : decode cX10_changed 79 = .ok (.aload_n 0, 1) := by decide +kernel
theorem dX10_changed_80 : decode cX10_changed 80 = .ok (.getfield 31, 3) := by decide +kernel
theorem dX10_changed_83 : decode cX10_changed 83 = .ok (.iload_n 3, 1) := by decide +kernel
theorem dX10_changed_84 : decode cX10_changed 84 = .ok (.iaload, 1) := by decide +kernel
theorem dX10_changed_85 : decode cX10_changed 85 = .ok (.if_icmp .ge 7, 3) := by decide +kernel
theorem dX10_changed_88 : decode cX10_changed 88 = .ok (.iconst 1, 1) := by decide +kernel
theorem dX10_changed_89 : decode cX10_changed 89 = .ok (.goto 4, 3) := by decide +kernel
theorem dX10_changed_92 : decode cX10_changed 92 = .ok (.iconst 0, 1) := by decide +kernel
theorem dX10_changed_93 : decode cX10_changed 93 = .ok (.istore 4, 2) := by decide +kernel
theorem dX10_changed_95 : decode cX10_changed 95 = .ok (.goto 24, 3) := by decide +kernel
theorem dX10_changed_98 : decode cX10_changed 98 = .ok (.aload_n 0, 1) := by decide +kernel
theorem dX10_changed_99 : decode cX10_changed 99 = .ok (.iload_n 3, 1) := by decide +kernel
theorem dX10_changed_100 : decode cX10_changed 100 = .ok (.invokevirtual 193, 3) := by decide +kernel
theorem dX10_changed_103 : decode cX10_changed 103 = .ok (.aload_n 0, 1) := by decide +kernel
theorem dX10_changed_104 : decode cX10_changed 104 = .ok (.getfield 34, 3) := by decide +kernel
theorem dX10_changed_107 : decode cX10_changed 107 = .ok (.iload_n 3, 1) := by decide +kernel
theorem dX10_changed_108 : decode cX10_changed 108 = .ok (.iaload, 1) := by decide +kernel
theorem dX10_changed_109 : decode cX10_changed 109 = .ok (.if_icmp .eq 7, 3) := by decide +kernel
theorem dX10_changed_112 : decode cX10_changed 112 = .ok (.iconst 1, 1) := by decide +kernel
theorem dX10_changed_113 : decode cX10_changed 113 = .ok (.goto 4, 3) := by decide +kernel
theorem dX10_changed_116 : decode cX10_changed 116 = .ok (.iconst 0, 1) := by decide +kernel
theorem dX10_changed_117 : decode cX10_changed 117 = .ok (.istore 4, 2) := by decide +kernel
theorem dX10_changed_119 : decode cX10_changed 119 = .ok (.iload_n 2, 1) := by decide +kernel
theorem dX10_changed_120 : decode cX10_changed 120 = .ok (.iload 4, 2) := by decide +kernel
theorem dX10_changed_122 : decode cX10_changed 122 = .ok (.ifCond .eq 9, 3) := by decide +kernel
theorem dX10_changed_125 : decode cX10_changed 125 = .ok (.iconst 1, 1) := by decide +kernel
theorem dX10_changed_126 : decode cX10_changed 126 = .ok (.iload_n 3, 1) := by decide +kernel
theorem dX10_changed_127 : decode cX10_changed 127 = .ok (.ishl, 1) := by decide +kernel
theorem dX10_changed_128 : decode cX10_changed 128 = .ok (.goto 4, 3) := by decide +kernel
theorem dX10_changed_131 : decode cX10_changed 131 = .ok (.iconst 0, 1) := by decide +kernel
theorem dX10_changed_132 : decode cX10_changed 132 = .ok (.ior, 1) := by decide +kernel
theorem dX10_changed_133 : decode cX10_changed 133 = .ok (.istore_n 2, 1) := by decide +kernel
theorem dX10_changed_134 : decode cX10_changed 134 = .ok (.iinc 3 1, 3) := by decide +kernel
theorem dX10_changed_137 : decode cX10_changed 137 = .ok (.goto (-133), 3) := by decide +kernel
theorem dX10_changed_140 : decode cX10_changed 140 = .ok (.iload_n 2, 1) := by decide +kernel
theorem dX10_changed_141 : decode cX10_changed 141 = .ok (.ireturn, 1) := by decide +kernel
theorem dX10_standing_0 : decode cX10_standing 0 = .ok (.iconst 0, 1) := by decide +kernel
theorem dX10_standing_1 : decode cX10_standing 1 = .ok (.istore_n 2, 1) := by decide +kernel
theorem dX10_standing_2 : decode cX10_standing 2 = .ok (.iconst 0, 1) := by decide +kernel
theorem dX10_standing_3 : decode cX10_standing 3 = .ok (.istore_n 3, 1) := by decide +kernel
theorem dX10_standing_4 : decode cX10_standing 4 = .ok (.iload_n 3, 1) := by decide +kernel
theorem dX10_standing_5 : decode cX10_standing 5 = .ok (.aload_n 0, 1) := by decide +kernel
theorem dX10_standing_6 : decode cX10_standing 6 = .ok (.invokevirtual 62, 3) := by decide +kernel
theorem dX10_standing_9 : decode cX10_standing 9 = .ok (.if_icmp .ge 24, 3) := by decide +kernel
theorem dX10_standing_12 : decode cX10_standing 12 = .ok (.aload_n 0, 1) := by decide +kernel
theorem dX10_standing_13 : decode cX10_standing 13 = .ok (.iload_n 3, 1) := by decide +kernel
theorem dX10_standing_14 : decode cX10_standing 14 = .ok (.iload_n 1, 1) := by decide +kernel
theorem dX10_standing_15 : decode cX10_standing 15 = .ok (.invokevirtual 187, 3) := by decide +kernel
theorem dX10_standing_18 : decode cX10_standing 18 = .ok (.ifCond .eq 9, 3) := by decide +kernel
theorem dX10_standing_21 : decode cX10_standing 21 = .ok (.iload_n 2, 1) := by decide +kernel
theorem dX10_standing_22 : decode cX10_standing 22 = .ok (.iconst 1, 1) := by decide +kernel
theorem dX10_standing_23 : decode cX10_standing 23 = .ok (.iload_n 3, 1) := by decide +kernel
theorem dX10_standing_24 : decode cX10_standing 24 = .ok (.ishl, 1) := by decide +kernel
theorem dX10_standing_25 : decode cX10_standing 25 = .ok (.ior, 1) := by decide +kernel
theorem dX10_standing_26 : decode cX10_standing 26 = .ok (.istore_n 2, 1) := by decide +kernel
theorem dX10_standing_27 : decode cX10_standing 27 = .ok (.iinc 3 1, 3) := by decide +kernel
theorem dX10_standing_30 : decode cX10_standing 30 = .ok (.goto (-26), 3) := by decide +kernel
theorem dX10_standing_33 : decode cX10_standing 33 = .ok (.iload_n 2, 1) := by decide +kernel
theorem dX10_standing_34 : decode cX10_standing 34 = .ok (.ireturn, 1) := by decide +kernel
theorem dX10_allStanding_0 : decode cX10_allStanding 0 = .ok (.aload_n 0, 1) := by decide +kernel
theorem dX10_allStanding_1 : decode cX10_allStanding 1 = .ok (.iload_n 1, 1) := by decide +kernel
theorem dX10_allStanding_2 : decode cX10_allStanding 2 = .ok (.invokevirtual 196, 3) := by decide +kernel
theorem dX10_allStanding_5 : decode cX10_allStanding 5 = .ok (.istore_n 2, 1) := by decide +kernel
theorem dX10_allStanding_6 : decode cX10_allStanding 6 = .ok (.iconst 0, 1) := by decide +kernel
theorem dX10_allStanding_7 : decode cX10_allStanding 7 = .ok (.istore_n 3, 1) := by decide +kernel
theorem dX10_allStanding_8 : decode cX10_allStanding 8 = .ok (.iload_n 3, 1) := by decide +kernel
theorem dX10_allStanding_9 : decode cX10_allStanding 9 = .ok (.iload_n 2, 1) := by decide +kernel
theorem dX10_allStanding_10 : decode cX10_allStanding 10 = .ok (.if_icmp .eq 44, 3) := by decide +kernel
theorem dX10_allStanding_13 : decode cX10_allStanding 13 = .ok (.iload_n 2, 1) := by decide +kernel
theorem dX10_allStanding_14 : decode cX10_allStanding 14 = .ok (.istore_n 3, 1) := by decide +kernel
theorem dX10_allStanding_15 : decode cX10_allStanding 15 = .ok (.iconst 0, 1) := by decide +kernel
theorem dX10_allStanding_16 : decode cX10_allStanding 16 = .ok (.istore 4, 2) := by decide +kernel
theorem dX10_allStanding_18 : decode cX10_allStanding 18 = .ok (.iload 4, 2) := by decide +kernel
theorem dX10_allStanding_20 : decode cX10_allStanding 20 = .ok (.aload_n 0, 1) := by decide +kernel
theorem dX10_allStanding_21 : decode cX10_allStanding 21 = .ok (.invokevirtual 62, 3) := by decide +kernel
theorem dX10_allStanding_24 : decode cX10_allStanding 24 = .ok (.if_icmp .ge 27, 3) := by decide +kernel
theorem dX10_allStanding_27 : decode cX10_allStanding 27 = .ok (.iload_n 3, 1) := by decide +kernel
theorem dX10_allStanding_28 : decode cX10_allStanding 28 = .ok (.iload 4, 2) := by decide +kernel
theorem dX10_allStanding_30 : decode cX10_allStanding 30 = .ok (.invokestatic 98, 3) := by decide +kernel
theorem dX10_allStanding_33 : decode cX10_allStanding 33 = .ok (.ifCond .eq 12, 3) := by decide +kernel
theorem dX10_allStanding_36 : decode cX10_allStanding 36 = .ok (.iload_n 2, 1) := by decide +kernel
theorem dX10_allStanding_37 : decode cX10_allStanding 37 = .ok (.aload_n 0, 1) := by decide +kernel
theorem dX10_allStanding_38 : decode cX10_allStanding 38 = .ok (.iload 4, 2) := by decide +kernel
theorem dX10_allStanding_40 : decode cX10_allStanding 40 = .ok (.invokevirtual 196, 3) := by decide +kernel
theorem dX10_allStanding_43 : decode cX10_allStanding 43 = .ok (.ior, 1) := by decide +kernel
theorem dX10_allStanding_44 : decode cX10_allStanding 44 = .ok (.istore_n 2, 1) := by decide +kernel
theorem dX10_allStanding_45 : decode cX10_allStanding 45 = .ok (.iinc 4 1, 3) := by decide +kernel
theorem dX10_allStanding_48 : decode cX10_allStanding 48 = .ok (.goto (-30), 3) := by decide +kernel
theorem dX10_allStanding_51 : decode cX10_allStanding 51 = .ok (.goto (-43), 3) := by decide +kernel
theorem dX10_allStanding_54 : decode cX10_allStanding 54 = .ok (.iload_n 2, 1) := by decide +kernel
theorem dX10_allStanding_55 : decode cX10_allStanding 55 = .ok (.ireturn, 1) := by decide +kernel
theorem dX10_goes_0 : decode cX10_goes 0 = .ok (.aload_n 0, 1) := by decide +kernel
theorem dX10_goes_1 : decode cX10_goes 1 = .ok (.iconst 0, 1) := by decide +kernel
theorem dX10_goes_2 : decode cX10_goes 2 = .ok (.putfield 51, 3) := by decide +kernel
theorem dX10_goes_5 : decode cX10_goes 5 = .ok (.aload_n 0, 1) := by decide +kernel
theorem dX10_goes_6 : decode cX10_goes 6 = .ok (.iload_n 1, 1) := by decide +kernel
theorem dX10_goes_7 : decode cX10_goes 7 = .ok (.invokevirtual 177, 3) := by decide +kernel
theorem dX10_goes_10 : decode cX10_goes 10 = .ok (.ifCond .eq 12, 3) := by decide +kernel
theorem dX10_goes_13 : decode cX10_goes 13 = .ok (.iload_n 2, 1) := by decide +kernel
theorem dX10_goes_14 : decode cX10_goes 14 = .ok (.iconst 0, 1) := by decide +kernel
theorem dX10_goes_15 : decode cX10_goes 15 = .ok (.iconst 4, 1) := by decide +kernel
theorem dX10_goes_16 : decode cX10_goes 16 = .ok (.invokestatic 58, 3) := by decide +kernel
theorem dX10_goes_19 : decode cX10_goes 19 = .ok (.ifCond .ne 9, 3) := by decide +kernel
theorem dX10_goes_22 : decode cX10_goes 22 = .ok (.aload_n 0, 1) := by decide +kernel
theorem dX10_goes_23 : decode cX10_goes 23 = .ok (.iconst 1, 1) := by decide +kernel
theorem dX10_goes_24 : decode cX10_goes 24 = .ok (.invokevirtual 171, 3) := by decide +kernel
theorem dX10_goes_27 : decode cX10_goes 27 = .ok (.ireturn, 1) := by decide +kernel
theorem dX10_goes_28 : decode cX10_goes 28 = .ok (.aload_n 0, 1) := by decide +kernel
theorem dX10_goes_29 : decode cX10_goes 29 = .ok (.iload_n 1, 1) := by decide +kernel
theorem dX10_goes_30 : decode cX10_goes 30 = .ok (.invokevirtual 69, 3) := by decide +kernel
theorem dX10_goes_33 : decode cX10_goes 33 = .ok (.ifCond .eq 11, 3) := by decide +kernel
theorem dX10_goes_36 : decode cX10_goes 36 = .ok (.aload_n 0, 1) := by decide +kernel
theorem dX10_goes_37 : decode cX10_goes 37 = .ok (.iload_n 1, 1) := by decide +kernel
theorem dX10_goes_38 : decode cX10_goes 38 = .ok (.invokevirtual 86, 3) := by decide +kernel
theorem dX10_goes_41 : decode cX10_goes 41 = .ok (.ifCond .eq 5, 3) := by decide +kernel
theorem dX10_goes_44 : decode cX10_goes 44 = .ok (.iconst 0, 1) := by decide +kernel
theorem dX10_goes_45 : decode cX10_goes 45 = .ok (.ireturn, 1) := by decide +kernel
theorem dX10_goes_46 : decode cX10_goes 46 = .ok (.aload_n 0, 1) := by decide +kernel
theorem dX10_goes_47 : decode cX10_goes 47 = .ok (.invokevirtual 152, 3) := by decide +kernel
theorem dX10_goes_50 : decode cX10_goes 50 = .ok (.iload_n 2, 1) := by decide +kernel
theorem dX10_goes_51 : decode cX10_goes 51 = .ok (.iconst 2, 1) := by decide +kernel
theorem dX10_goes_52 : decode cX10_goes 52 = .ok (.if_icmp .le 22, 3) := by decide +kernel
theorem dX10_goes_55 : decode cX10_goes 55 = .ok (.iload_n 2, 1) := by decide +kernel
theorem dX10_goes_56 : decode cX10_goes 56 = .ok (.iconst 3, 1) := by decide +kernel
theorem dX10_goes_57 : decode cX10_goes 57 = .ok (.if_icmp .ne 11, 3) := by decide +kernel
theorem dX10_goes_60 : decode cX10_goes 60 = .ok (.aload_n 0, 1) := by decide +kernel
theorem dX10_goes_61 : decode cX10_goes 61 = .ok (.iload_n 1, 1) := by decide +kernel
theorem dX10_goes_62 : decode cX10_goes 62 = .ok (.invokevirtual 196, 3) := by decide +kernel
theorem dX10_goes_65 : decode cX10_goes 65 = .ok (.goto 8, 3) := by decide +kernel
theorem dX10_goes_68 : decode cX10_goes 68 = .ok (.aload_n 0, 1) := by decide +kernel
theorem dX10_goes_69 : decode cX10_goes 69 = .ok (.iload_n 1, 1) := by decide +kernel
theorem dX10_goes_70 : decode cX10_goes 70 = .ok (.invokevirtual 199, 3) := by decide +kernel
theorem dX10_goes_73 : decode cX10_goes 73 = .ok (.ireturn, 1) := by decide +kernel
theorem dX10_goes_74 : decode cX10_goes 74 = .ok (.aload_n 0, 1) := by decide +kernel
theorem dX10_goes_75 : decode cX10_goes 75 = .ok (.invokevirtual 202, 3) := by decide +kernel
theorem dX10_goes_78 : decode cX10_goes 78 = .ok (.aload_n 0, 1) := by decide +kernel
theorem dX10_goes_79 : decode cX10_goes 79 = .ok (.iload_n 1, 1) := by decide +kernel
theorem dX10_goes_80 : decode cX10_goes 80 = .ok (.bipush 8, 2) := by decide +kernel
theorem dX10_goes_82 : decode cX10_goes 82 = .ok (.iconst 1, 1) := by decide +kernel
theorem dX10_goes_83 : decode cX10_goes 83 = .ok (.invokevirtual 205, 3) := by decide +kernel
theorem dX10_goes_86 : decode cX10_goes 86 = .ok (.aload_n 0, 1) := by decide +kernel
theorem dX10_goes_87 : decode cX10_goes 87 = .ok (.iload_n 2, 1) := by decide +kernel
theorem dX10_goes_88 : decode cX10_goes 88 = .ok (.invokevirtual 209, 3) := by decide +kernel
theorem dX10_goes_91 : decode cX10_goes 91 = .ok (.istore_n 3, 1) := by decide +kernel
theorem dX10_goes_92 : decode cX10_goes 92 = .ok (.aload_n 0, 1) := by decide +kernel
theorem dX10_goes_93 : decode cX10_goes 93 = .ok (.iload_n 1, 1) := by decide +kernel
theorem dX10_goes_94 : decode cX10_goes 94 = .ok (.bipush 8, 2) := by decide +kernel
theorem dX10_goes_96 : decode cX10_goes 96 = .ok (.iconst 0, 1) := by decide +kernel
theorem dX10_goes_97 : decode cX10_goes 97 = .ok (.invokevirtual 205, 3) := by decide +kernel
theorem dX10_goes_100 : decode cX10_goes 100 = .ok (.iload_n 3, 1) := by decide +kernel
theorem dX10_goes_101 : decode cX10_goes 101 = .ok (.ireturn, 1) := by decide +kernel
theorem dX10_lay_0 : decode cX10_lay 0 = .ok (.sipush 198, 3) := by decide +kernel
theorem dX10_lay_3 : decode cX10_lay 3 = .ok (.bipush 12, 2) := by decide +kernel
theorem dX10_lay_5 : decode cX10_lay 5 = .ok (.iload_n 2, 1) := by decide +kernel
theorem dX10_lay_6 : decode cX10_lay 6 = .ok (.imul, 1) := by decide +kernel
theorem dX10_lay_7 : decode cX10_lay 7 = .ok (.iadd, 1) := by decide +kernel
theorem dX10_lay_8 : decode cX10_lay 8 = .ok (.istore 6, 2) := by decide +kernel
theorem dX10_lay_10 : decode cX10_lay 10 = .ok (.iconst 0, 1) := by decide +kernel
theorem dX10_lay_11 : decode cX10_lay 11 = .ok (.istore 7, 2) := by decide +kernel
theorem dX10_lay_13 : decode cX10_lay 13 = .ok (.iload 7, 2) := by decide +kernel
theorem dX10_lay_15 : decode cX10_lay 15 = .ok (.bipush 12, 2) := by decide +kernel
theorem dX10_lay_17 : decode cX10_lay 17 = .ok (.if_icmp .ge 17, 3) := by decide +kernel
theorem dX10_lay_20 : decode cX10_lay 20 = .ok (.aload_n 1, 1) := by decide +kernel
theorem dX10_lay_21 : decode cX10_lay 21 = .ok (.iload 6, 2) := by decide +kernel
theorem dX10_lay_23 : decode cX10_lay 23 = .ok (.iload 7, 2) := by decide +kernel
theorem dX10_lay_25 : decode cX10_lay 25 = .ok (.iadd, 1) := by decide +kernel
theorem dX10_lay_26 : decode cX10_lay 26 = .ok (.iconst 0, 1) := by decide +kernel
theorem dX10_lay_27 : decode cX10_lay 27 = .ok (.iastore, 1) := by decide +kernel
theorem dX10_lay_28 : decode cX10_lay 28 = .ok (.iinc 7 1, 3) := by decide +kernel
theorem dX10_lay_31 : decode cX10_lay 31 = .ok (.goto (-18), 3) := by decide +kernel
theorem dX10_lay_34 : decode cX10_lay 34 = .ok (.aload_n 1, 1) := by decide +kernel
theorem dX10_lay_35 : decode cX10_lay 35 = .ok (.iload 6, 2) := by decide +kernel
theorem dX10_lay_37 : decode cX10_lay 37 = .ok (.iconst 0, 1) := by decide +kernel
theorem dX10_lay_38 : decode cX10_lay 38 = .ok (.iadd, 1) := by decide +kernel
theorem dX10_lay_39 : decode cX10_lay 39 = .ok (.iload_n 3, 1) := by decide +kernel
theorem dX10_lay_40 : decode cX10_lay 40 = .ok (.iastore, 1) := by decide +kernel
theorem dX10_lay_41 : decode cX10_lay 41 = .ok (.aload_n 1, 1) := by decide +kernel
theorem dX10_lay_42 : decode cX10_lay 42 = .ok (.iload 6, 2) := by decide +kernel
theorem dX10_lay_44 : decode cX10_lay 44 = .ok (.iconst 1, 1) := by decide +kernel
theorem dX10_lay_45 : decode cX10_lay 45 = .ok (.iadd, 1) := by decide +kernel
theorem dX10_lay_46 : decode cX10_lay 46 = .ok (.iload 4, 2) := by decide +kernel
theorem dX10_lay_48 : decode cX10_lay 48 = .ok (.iastore, 1) := by decide +kernel
theorem dX10_lay_49 : decode cX10_lay 49 = .ok (.aload_n 1, 1) := by decide +kernel
theorem dX10_lay_50 : decode cX10_lay 50 = .ok (.iload 6, 2) := by decide +kernel
theorem dX10_lay_52 : decode cX10_lay 52 = .ok (.iconst 2, 1) := by decide +kernel
theorem dX10_lay_53 : decode cX10_lay 53 = .ok (.iadd, 1) := by decide +kernel
theorem dX10_lay_54 : decode cX10_lay 54 = .ok (.iload 5, 2) := by decide +kernel
theorem dX10_lay_56 : decode cX10_lay 56 = .ok (.iastore, 1) := by decide +kernel
theorem dX10_lay_57 : decode cX10_lay 57 = .ok (.aload_n 1, 1) := by decide +kernel
theorem dX10_lay_58 : decode cX10_lay 58 = .ok (.iload 6, 2) := by decide +kernel
theorem dX10_lay_60 : decode cX10_lay 60 = .ok (.bipush 6, 2) := by decide +kernel
theorem dX10_lay_62 : decode cX10_lay 62 = .ok (.iadd, 1) := by decide +kernel
theorem dX10_lay_63 : decode cX10_lay 63 = .ok (.iconst (-1), 1) := by decide +kernel
theorem dX10_lay_64 : decode cX10_lay 64 = .ok (.iastore, 1) := by decide +kernel
theorem dX10_lay_65 : decode cX10_lay 65 = .ok (.return_, 1) := by decide +kernel
theorem dX10_would_0 : decode cX10_would 0 = .ok (.iload_n 1, 1) := by decide +kernel
theorem dX10_would_1 : decode cX10_would 1 = .ok (.bipush 12, 2) := by decide +kernel
theorem dX10_would_3 : decode cX10_would 3 = .ok (.idiv, 1) := by decide +kernel
theorem dX10_would_4 : decode cX10_would 4 = .ok (.istore 7, 2) := by decide +kernel
theorem dX10_would_6 : decode cX10_would 6 = .ok (.iload_n 1, 1) := by decide +kernel
theorem dX10_would_7 : decode cX10_would 7 = .ok (.bipush 12, 2) := by decide +kernel
theorem dX10_would_9 : decode cX10_would 9 = .ok (.irem, 1) := by decide +kernel
theorem dX10_would_10 : decode cX10_would 10 = .ok (.istore 8, 2) := by decide +kernel
theorem dX10_would_12 : decode cX10_would 12 = .ok (.iload_n 1, 1) := by decide +kernel
theorem dX10_would_13 : decode cX10_would 13 = .ok (.ifCond .lt 32, 3) := by decide +kernel
theorem dX10_would_16 : decode cX10_would 16 = .ok (.aload_n 0, 1) := by decide +kernel
theorem dX10_would_17 : decode cX10_would 17 = .ok (.iload 7, 2) := by decide +kernel
theorem dX10_would_19 : decode cX10_would 19 = .ok (.invokevirtual 174, 3) := by decide +kernel
theorem dX10_would_22 : decode cX10_would 22 = .ok (.ifCond .eq 23, 3) := by decide +kernel
theorem dX10_would_25 : decode cX10_would 25 = .ok (.aload_n 0, 1) := by decide +kernel
theorem dX10_would_26 : decode cX10_would 26 = .ok (.iload 8, 2) := by decide +kernel
theorem dX10_would_28 : decode cX10_would 28 = .ok (.invokevirtual 174, 3) := by decide +kernel
theorem dX10_would_31 : decode cX10_would 31 = .ok (.ifCond .eq 14, 3) := by decide +kernel
theorem dX10_would_34 : decode cX10_would 34 = .ok (.iload 7, 2) := by decide +kernel
theorem dX10_would_36 : decode cX10_would 36 = .ok (.iload 8, 2) := by decide +kernel
theorem dX10_would_38 : decode cX10_would 38 = .ok (.if_icmp .eq 7, 3) := by decide +kernel
theorem dX10_would_41 : decode cX10_would 41 = .ok (.iconst 1, 1) := by decide +kernel
theorem dX10_would_42 : decode cX10_would 42 = .ok (.goto 4, 3) := by decide +kernel
theorem dX10_would_45 : decode cX10_would 45 = .ok (.iconst 0, 1) := by decide +kernel
theorem dX10_would_46 : decode cX10_would 46 = .ok (.istore 9, 2) := by decide +kernel
theorem dX10_would_48 : decode cX10_would 48 = .ok (.iload_n 3, 1) := by decide +kernel
theorem dX10_would_49 : decode cX10_would 49 = .ok (.ifCond .lt 36, 3) := by decide +kernel
theorem dX10_would_52 : decode cX10_would 52 = .ok (.iload 4, 2) := by decide +kernel
theorem dX10_would_54 : decode cX10_would 54 = .ok (.ifCond .lt 31, 3) := by decide +kernel
theorem dX10_would_57 : decode cX10_would 57 = .ok (.iload 5, 2) := by decide +kernel
theorem dX10_would_59 : decode cX10_would 59 = .ok (.ifCond .lt 26, 3) := by decide +kernel
theorem dX10_would_62 : decode cX10_would 62 = .ok (.iload 4, 2) := by decide +kernel
theorem dX10_would_64 : decode cX10_would 64 = .ok (.iload 5, 2) := by decide +kernel
theorem dX10_would_66 : decode cX10_would 66 = .ok (.iand, 1) := by decide +kernel
theorem dX10_would_67 : decode cX10_would 67 = .ok (.ifCond .ne 18, 3) := by decide +kernel
theorem dX10_would_70 : decode cX10_would 70 = .ok (.iload_n 2, 1) := by decide +kernel
theorem dX10_would_71 : decode cX10_would 71 = .ok (.iconst 0, 1) := by decide +kernel
theorem dX10_would_72 : decode cX10_would 72 = .ok (.sipush 9999, 3) := by decide +kernel
theorem dX10_would_75 : decode cX10_would 75 = .ok (.invokestatic 58, 3) := by decide +kernel
theorem dX10_would_78 : decode cX10_would 78 = .ok (.ifCond .eq 7, 3) := by decide +kernel
theorem dX10_would_81 : decode cX10_would 81 = .ok (.iconst 1, 1) := by decide +kernel
theorem dX10_would_82 : decode cX10_would 82 = .ok (.goto 4, 3) := by decide +kernel
theorem dX10_would_85 : decode cX10_would 85 = .ok (.iconst 0, 1) := by decide +kernel
theorem dX10_would_86 : decode cX10_would 86 = .ok (.istore 10, 2) := by decide +kernel
theorem dX10_would_88 : decode cX10_would 88 = .ok (.aload_n 0, 1) := by decide +kernel
theorem dX10_would_89 : decode cX10_would 89 = .ok (.iload 9, 2) := by decide +kernel
theorem dX10_would_91 : decode cX10_would 91 = .ok (.ifCond .eq 13, 3) := by decide +kernel
theorem dX10_would_94 : decode cX10_would 94 = .ok (.iload 6, 2) := by decide +kernel
theorem dX10_would_96 : decode cX10_would 96 = .ok (.iconst 0, 1) := by decide +kernel
theorem dX10_would_97 : decode cX10_would 97 = .ok (.iconst 2, 1) := by decide +kernel
theorem dX10_would_98 : decode cX10_would 98 = .ok (.invokestatic 58, 3) := by decide +kernel
theorem dX10_would_101 : decode cX10_would 101 = .ok (.ifCond .ne 7, 3) := by decide +kernel
theorem dX10_would_104 : decode cX10_would 104 = .ok (.iconst 1, 1) := by decide +kernel
theorem dX10_would_105 : decode cX10_would 105 = .ok (.goto 13, 3) := by decide +kernel
theorem dX10_would_108 : decode cX10_would 108 = .ok (.iload 10, 2) := by decide +kernel
theorem dX10_would_110 : decode cX10_would 110 = .ok (.ifCond .ne 7, 3) := by decide +kernel
theorem dX10_would_113 : decode cX10_would 113 = .ok (.iconst 2, 1) := by decide +kernel
theorem dX10_would_114 : decode cX10_would 114 = .ok (.goto 4, 3) := by decide +kernel
theorem dX10_would_117 : decode cX10_would 117 = .ok (.iconst 0, 1) := by decide +kernel
theorem dX10_would_118 : decode cX10_would 118 = .ok (.putfield 51, 3) := by decide +kernel
theorem dX10_would_121 : decode cX10_would 121 = .ok (.aload_n 0, 1) := by decide +kernel
theorem dX10_would_122 : decode cX10_would 122 = .ok (.getfield 51, 3) := by decide +kernel
theorem dX10_would_125 : decode cX10_would 125 = .ok (.ifCond .le 5, 3) := by decide +kernel
theorem dX10_would_128 : decode cX10_would 128 = .ok (.iconst 0, 1) := by decide +kernel
theorem dX10_would_129 : decode cX10_would 129 = .ok (.ireturn, 1) := by decide +kernel
theorem dX10_would_130 : decode cX10_would 130 = .ok (.aload_n 0, 1) := by decide +kernel
theorem dX10_would_131 : decode cX10_would 131 = .ok (.invokevirtual 62, 3) := by decide +kernel
theorem dX10_would_134 : decode cX10_would 134 = .ok (.istore 11, 2) := by decide +kernel
theorem dX10_would_136 : decode cX10_would 136 = .ok (.aload_n 0, 1) := by decide +kernel
theorem dX10_would_137 : decode cX10_would 137 = .ok (.getfield 9, 3) := by decide +kernel
theorem dX10_would_140 : decode cX10_would 140 = .ok (.iconst 2, 1) := by decide +kernel
theorem dX10_would_141 : decode cX10_would 141 = .ok (.dup2, 1) := by decide +kernel
theorem dX10_would_142 : decode cX10_would 142 = .ok (.iaload, 1) := by decide +kernel
theorem dX10_would_143 : decode cX10_would 143 = .ok (.iconst 1, 1) := by decide +kernel
theorem dX10_would_144 : decode cX10_would 144 = .ok (.iadd, 1) := by decide +kernel
theorem dX10_would_145 : decode cX10_would 145 = .ok (.iastore, 1) := by decide +kernel
theorem dX10_would_146 : decode cX10_would 146 = .ok (.aload_n 0, 1) := by decide +kernel
theorem dX10_would_147 : decode cX10_would 147 = .ok (.aload_n 0, 1) := by decide +kernel
theorem dX10_would_148 : decode cX10_would 148 = .ok (.getfield 9, 3) := by decide +kernel
theorem dX10_would_151 : decode cX10_would 151 = .ok (.iload 11, 2) := by decide +kernel
theorem dX10_would_153 : decode cX10_would 153 = .ok (.iload 7, 2) := by decide +kernel
theorem dX10_would_155 : decode cX10_would 155 = .ok (.iload 8, 2) := by decide +kernel
theorem dX10_would_157 : decode cX10_would 157 = .ok (.iload_n 2, 1) := by decide +kernel
theorem dX10_would_158 : decode cX10_would 158 = .ok (.invokevirtual 212, 3) := by decide +kernel
theorem dX10_would_161 : decode cX10_would 161 = .ok (.aload_n 0, 1) := by decide +kernel
theorem dX10_would_162 : decode cX10_would 162 = .ok (.iload 11, 2) := by decide +kernel
theorem dX10_would_164 : decode cX10_would 164 = .ok (.iconst 3, 1) := by decide +kernel
theorem dX10_would_165 : decode cX10_would 165 = .ok (.iload_n 3, 1) := by decide +kernel
theorem dX10_would_166 : decode cX10_would 166 = .ok (.invokevirtual 205, 3) := by decide +kernel
theorem dX10_would_169 : decode cX10_would 169 = .ok (.aload_n 0, 1) := by decide +kernel
theorem dX10_would_170 : decode cX10_would 170 = .ok (.iload 11, 2) := by decide +kernel
theorem dX10_would_172 : decode cX10_would 172 = .ok (.iconst 4, 1) := by decide +kernel
theorem dX10_would_173 : decode cX10_would 173 = .ok (.iload 4, 2) := by decide +kernel
theorem dX10_would_175 : decode cX10_would 175 = .ok (.invokevirtual 205, 3) := by decide +kernel
theorem dX10_would_178 : decode cX10_would 178 = .ok (.aload_n 0, 1) := by decide +kernel
theorem dX10_would_179 : decode cX10_would 179 = .ok (.iload 11, 2) := by decide +kernel
theorem dX10_would_181 : decode cX10_would 181 = .ok (.iconst 5, 1) := by decide +kernel
theorem dX10_would_182 : decode cX10_would 182 = .ok (.iload 5, 2) := by decide +kernel
theorem dX10_would_184 : decode cX10_would 184 = .ok (.invokevirtual 205, 3) := by decide +kernel
theorem dX10_would_187 : decode cX10_would 187 = .ok (.aload_n 0, 1) := by decide +kernel
theorem dX10_would_188 : decode cX10_would 188 = .ok (.invokevirtual 152, 3) := by decide +kernel
theorem dX10_would_191 : decode cX10_would 191 = .ok (.iload 6, 2) := by decide +kernel
theorem dX10_would_193 : decode cX10_would 193 = .ok (.ifCond .ne 12, 3) := by decide +kernel
theorem dX10_would_196 : decode cX10_would 196 = .ok (.aload_n 0, 1) := by decide +kernel
theorem dX10_would_197 : decode cX10_would 197 = .ok (.iload 11, 2) := by decide +kernel
theorem dX10_would_199 : decode cX10_would 199 = .ok (.invokevirtual 143, 3) := by decide +kernel
theorem dX10_would_202 : decode cX10_would 202 = .ok (.goto 24, 3) := by decide +kernel
theorem dX10_would_205 : decode cX10_would 205 = .ok (.iload 6, 2) := by decide +kernel
theorem dX10_would_207 : decode cX10_would 207 = .ok (.iconst 1, 1) := by decide +kernel
theorem dX10_would_208 : decode cX10_would 208 = .ok (.if_icmp .ne 12, 3) := by decide +kernel
theorem dX10_would_211 : decode cX10_would 211 = .ok (.aload_n 0, 1) := by decide +kernel
theorem dX10_would_212 : decode cX10_would 212 = .ok (.iload 11, 2) := by decide +kernel
theorem dX10_would_214 : decode cX10_would 214 = .ok (.invokevirtual 146, 3) := by decide +kernel
theorem dX10_would_217 : decode cX10_would 217 = .ok (.goto 9, 3) := by decide +kernel
theorem dX10_would_220 : decode cX10_would 220 = .ok (.aload_n 0, 1) := by decide +kernel
theorem dX10_would_221 : decode cX10_would 221 = .ok (.iload 11, 2) := by decide +kernel
theorem dX10_would_223 : decode cX10_would 223 = .ok (.invokevirtual 193, 3) := by decide +kernel
theorem dX10_would_226 : decode cX10_would 226 = .ok (.istore 12, 2) := by decide +kernel
theorem dX10_would_228 : decode cX10_would 228 = .ok (.aload_n 0, 1) := by decide +kernel
theorem dX10_would_229 : decode cX10_would 229 = .ok (.getfield 9, 3) := by decide +kernel
theorem dX10_would_232 : decode cX10_would 232 = .ok (.iconst 2, 1) := by decide +kernel
theorem dX10_would_233 : decode cX10_would 233 = .ok (.dup2, 1) := by decide +kernel
theorem dX10_would_234 : decode cX10_would 234 = .ok (.iaload, 1) := by decide +kernel
theorem dX10_would_235 : decode cX10_would 235 = .ok (.iconst 1, 1) := by decide +kernel
theorem dX10_would_236 : decode cX10_would 236 = .ok (.isub, 1) := by decide +kernel
theorem dX10_would_237 : decode cX10_would 237 = .ok (.iastore, 1) := by decide +kernel
theorem dX10_would_238 : decode cX10_would 238 = .ok (.iload 12, 2) := by decide +kernel
theorem dX10_would_240 : decode cX10_would 240 = .ok (.ireturn, 1) := by decide +kernel
theorem dX10_freeTill_0 : decode cX10_freeTill 0 = .ok (.aload_n 0, 1) := by decide +kernel
theorem dX10_freeTill_1 : decode cX10_freeTill 1 = .ok (.iconst 0, 1) := by decide +kernel
theorem dX10_freeTill_2 : decode cX10_freeTill 2 = .ok (.putfield 51, 3) := by decide +kernel
theorem dX10_freeTill_5 : decode cX10_freeTill 5 = .ok (.aload_n 0, 1) := by decide +kernel
theorem dX10_freeTill_6 : decode cX10_freeTill 6 = .ok (.iload_n 1, 1) := by decide +kernel
theorem dX10_freeTill_7 : decode cX10_freeTill 7 = .ok (.invokevirtual 177, 3) := by decide +kernel
theorem dX10_freeTill_10 : decode cX10_freeTill 10 = .ok (.ifCond .ne 9, 3) := by decide +kernel
theorem dX10_freeTill_13 : decode cX10_freeTill 13 = .ok (.aload_n 0, 1) := by decide +kernel
theorem dX10_freeTill_14 : decode cX10_freeTill 14 = .ok (.iconst 1, 1) := by decide +kernel
theorem dX10_freeTill_15 : decode cX10_freeTill 15 = .ok (.invokevirtual 171, 3) := by decide +kernel
theorem dX10_freeTill_18 : decode cX10_freeTill 18 = .ok (.ireturn, 1) := by decide +kernel
theorem dX10_freeTill_19 : decode cX10_freeTill 19 = .ok (.aload_n 0, 1) := by decide +kernel
theorem dX10_freeTill_20 : decode cX10_freeTill 20 = .ok (.invokevirtual 152, 3) := by decide +kernel
theorem dX10_freeTill_23 : decode cX10_freeTill 23 = .ok (.aload_n 0, 1) := by decide +kernel
theorem dX10_freeTill_24 : decode cX10_freeTill 24 = .ok (.iload_n 1, 1) := by decide +kernel
theorem dX10_freeTill_25 : decode cX10_freeTill 25 = .ok (.iconst 2, 1) := by decide +kernel
theorem dX10_freeTill_26 : decode cX10_freeTill 26 = .ok (.invokevirtual 65, 3) := by decide +kernel
theorem dX10_freeTill_29 : decode cX10_freeTill 29 = .ok (.istore_n 2, 1) := by decide +kernel
theorem dX10_freeTill_30 : decode cX10_freeTill 30 = .ok (.iconst (-1), 1) := by decide +kernel
theorem dX10_freeTill_31 : decode cX10_freeTill 31 = .ok (.istore_n 3, 1) := by decide +kernel
theorem dX10_freeTill_32 : decode cX10_freeTill 32 = .ok (.sipush 9999, 3) := by decide +kernel
theorem dX10_freeTill_35 : decode cX10_freeTill 35 = .ok (.istore 4, 2) := by decide +kernel
theorem dX10_freeTill_37 : decode cX10_freeTill 37 = .ok (.iload 4, 2) := by decide +kernel
theorem dX10_freeTill_39 : decode cX10_freeTill 39 = .ok (.ifCond .lt 33, 3) := by decide +kernel
theorem dX10_freeTill_42 : decode cX10_freeTill 42 = .ok (.iload_n 3, 1) := by decide +kernel
theorem dX10_freeTill_43 : decode cX10_freeTill 43 = .ok (.iconst (-1), 1) := by decide +kernel
theorem dX10_freeTill_44 : decode cX10_freeTill 44 = .ok (.if_icmp .ne 28, 3) := by decide +kernel
theorem dX10_freeTill_47 : decode cX10_freeTill 47 = .ok (.aload_n 0, 1) := by decide +kernel
theorem dX10_freeTill_48 : decode cX10_freeTill 48 = .ok (.iload_n 1, 1) := by decide +kernel
theorem dX10_freeTill_49 : decode cX10_freeTill 49 = .ok (.iconst 2, 1) := by decide +kernel
theorem dX10_freeTill_50 : decode cX10_freeTill 50 = .ok (.iload 4, 2) := by decide +kernel
theorem dX10_freeTill_52 : decode cX10_freeTill 52 = .ok (.invokevirtual 205, 3) := by decide +kernel
theorem dX10_freeTill_55 : decode cX10_freeTill 55 = .ok (.aload_n 0, 1) := by decide +kernel
theorem dX10_freeTill_56 : decode cX10_freeTill 56 = .ok (.iload_n 1, 1) := by decide +kernel
theorem dX10_freeTill_57 : decode cX10_freeTill 57 = .ok (.invokevirtual 143, 3) := by decide +kernel
theorem dX10_freeTill_60 : decode cX10_freeTill 60 = .ok (.ifCond .ne 6, 3) := by decide +kernel
theorem dX10_freeTill_63 : decode cX10_freeTill 63 = .ok (.iload 4, 2) := by decide +kernel
theorem dX10_freeTill_65 : decode cX10_freeTill 65 = .ok (.istore_n 3, 1) := by decide +kernel
theorem dX10_freeTill_66 : decode cX10_freeTill 66 = .ok (.iinc 4 (-1), 3) := by decide +kernel
theorem dX10_freeTill_69 : decode cX10_freeTill 69 = .ok (.goto (-32), 3) := by decide +kernel
theorem dX10_freeTill_72 : decode cX10_freeTill 72 = .ok (.aload_n 0, 1) := by decide +kernel
theorem dX10_freeTill_73 : decode cX10_freeTill 73 = .ok (.iload_n 1, 1) := by decide +kernel
theorem dX10_freeTill_74 : decode cX10_freeTill 74 = .ok (.iconst 2, 1) := by decide +kernel
theorem dX10_freeTill_75 : decode cX10_freeTill 75 = .ok (.iload_n 2, 1) := by decide +kernel
theorem dX10_freeTill_76 : decode cX10_freeTill 76 = .ok (.invokevirtual 205, 3) := by decide +kernel
theorem dX10_freeTill_79 : decode cX10_freeTill 79 = .ok (.iload_n 3, 1) := by decide +kernel
theorem dX10_freeTill_80 : decode cX10_freeTill 80 = .ok (.ireturn, 1) := by decide +kernel
theorem dX10_writes_0 : decode cX10_writes 0 = .ok (.aload_n 0, 1) := by decide +kernel
theorem dX10_writes_1 : decode cX10_writes 1 = .ok (.getfield 37, 3) := by decide +kernel
theorem dX10_writes_4 : decode cX10_writes 4 = .ok (.aload_n 0, 1) := by decide +kernel
theorem dX10_writes_5 : decode cX10_writes 5 = .ok (.getfield 216, 3) := by decide +kernel
theorem dX10_writes_8 : decode cX10_writes 8 = .ok (.iload_n 1, 1) := by decide +kernel
theorem dX10_writes_9 : decode cX10_writes 9 = .ok (.iastore, 1) := by decide +kernel
theorem dX10_writes_10 : decode cX10_writes 10 = .ok (.aload_n 0, 1) := by decide +kernel
theorem dX10_writes_11 : decode cX10_writes 11 = .ok (.dup, 1) := by decide +kernel
theorem dX10_writes_12 : decode cX10_writes 12 = .ok (.getfield 216, 3) := by decide +kernel
theorem dX10_writes_15 : decode cX10_writes 15 = .ok (.iconst 1, 1) := by decide +kernel
theorem dX10_writes_16 : decode cX10_writes 16 = .ok (.iadd, 1) := by decide +kernel
theorem dX10_writes_17 : decode cX10_writes 17 = .ok (.putfield 216, 3) := by decide +kernel
theorem dX10_writes_20 : decode cX10_writes 20 = .ok (.return_, 1) := by decide +kernel
theorem dX10_writesNumber_0 : decode cX10_writesNumber 0 = .ok (.iload_n 1, 1) := by decide +kernel
theorem dX10_writesNumber_1 : decode cX10_writesNumber 1 = .ok (.bipush 9, 2) := by decide +kernel
theorem dX10_writesNumber_3 : decode cX10_writesNumber 3 = .ok (.if_icmp .le 14, 3) := by decide +kernel
theorem dX10_writesNumber_6 : decode cX10_writesNumber 6 = .ok (.aload_n 0, 1) := by decide +kernel
theorem dX10_writesNumber_7 : decode cX10_writesNumber 7 = .ok (.bipush 48, 2) := by decide +kernel
theorem dX10_writesNumber_9 : decode cX10_writesNumber 9 = .ok (.iload_n 1, 1) := by decide +kernel
theorem dX10_writesNumber_10 : decode cX10_writesNumber 10 = .ok (.bipush 10, 2) := by decide +kernel
theorem dX10_writesNumber_12 : decode cX10_writesNumber 12 = .ok (.idiv, 1) := by decide +kernel
theorem dX10_writesNumber_13 : decode cX10_writesNumber 13 = .ok (.iadd, 1) := by decide +kernel
theorem dX10_writesNumber_14 : decode cX10_writesNumber 14 = .ok (.invokevirtual 219, 3) := by decide +kernel
theorem dX10_writesNumber_17 : decode cX10_writesNumber 17 = .ok (.aload_n 0, 1) := by decide +kernel
theorem dX10_writesNumber_18 : decode cX10_writesNumber 18 = .ok (.bipush 48, 2) := by decide +kernel
theorem dX10_writesNumber_20 : decode cX10_writesNumber 20 = .ok (.iload_n 1, 1) := by decide +kernel
theorem dX10_writesNumber_21 : decode cX10_writesNumber 21 = .ok (.bipush 10, 2) := by decide +kernel
theorem dX10_writesNumber_23 : decode cX10_writesNumber 23 = .ok (.irem, 1) := by decide +kernel
theorem dX10_writesNumber_24 : decode cX10_writesNumber 24 = .ok (.iadd, 1) := by decide +kernel
theorem dX10_writesNumber_25 : decode cX10_writesNumber 25 = .ok (.invokevirtual 219, 3) := by decide +kernel
theorem dX10_writesNumber_28 : decode cX10_writesNumber 28 = .ok (.return_, 1) := by decide +kernel
theorem dX10_say_0 : decode cX10_say 0 = .ok (.aload_n 0, 1) := by decide +kernel
theorem dX10_say_1 : decode cX10_say 1 = .ok (.iconst 0, 1) := by decide +kernel
theorem dX10_say_2 : decode cX10_say 2 = .ok (.putfield 51, 3) := by decide +kernel
theorem dX10_say_5 : decode cX10_say 5 = .ok (.aload_n 0, 1) := by decide +kernel
theorem dX10_say_6 : decode cX10_say 6 = .ok (.iload_n 1, 1) := by decide +kernel
theorem dX10_say_7 : decode cX10_say 7 = .ok (.invokevirtual 177, 3) := by decide +kernel
theorem dX10_say_10 : decode cX10_say 10 = .ok (.ifCond .ne 9, 3) := by decide +kernel
theorem dX10_say_13 : decode cX10_say 13 = .ok (.aload_n 0, 1) := by decide +kernel
theorem dX10_say_14 : decode cX10_say 14 = .ok (.iconst 1, 1) := by decide +kernel
theorem dX10_say_15 : decode cX10_say 15 = .ok (.invokevirtual 171, 3) := by decide +kernel
theorem dX10_say_18 : decode cX10_say 18 = .ok (.ireturn, 1) := by decide +kernel
theorem dX10_say_19 : decode cX10_say 19 = .ok (.aload_n 0, 1) := by decide +kernel
theorem dX10_say_20 : decode cX10_say 20 = .ok (.invokevirtual 152, 3) := by decide +kernel
theorem dX10_say_23 : decode cX10_say 23 = .ok (.aload_n 0, 1) := by decide +kernel
theorem dX10_say_24 : decode cX10_say 24 = .ok (.iconst 0, 1) := by decide +kernel
theorem dX10_say_25 : decode cX10_say 25 = .ok (.putfield 216, 3) := by decide +kernel
theorem dX10_say_28 : decode cX10_say 28 = .ok (.aload_n 0, 1) := by decide +kernel
theorem dX10_say_29 : decode cX10_say 29 = .ok (.iload_n 1, 1) := by decide +kernel
theorem dX10_say_30 : decode cX10_say 30 = .ok (.invokevirtual 146, 3) := by decide +kernel
theorem dX10_say_33 : decode cX10_say 33 = .ok (.istore_n 2, 1) := by decide +kernel
theorem dX10_say_34 : decode cX10_say 34 = .ok (.aload_n 0, 1) := by decide +kernel
theorem dX10_say_35 : decode cX10_say 35 = .ok (.iload_n 1, 1) := by decide +kernel
theorem dX10_say_36 : decode cX10_say 36 = .ok (.invokevirtual 149, 3) := by decide +kernel
theorem dX10_say_39 : decode cX10_say 39 = .ok (.istore_n 3, 1) := by decide +kernel
theorem dX10_say_40 : decode cX10_say 40 = .ok (.iconst 0, 1) := by decide +kernel
theorem dX10_say_41 : decode cX10_say 41 = .ok (.istore 4, 2) := by decide +kernel
theorem dX10_say_43 : decode cX10_say 43 = .ok (.iload 4, 2) := by decide +kernel
theorem dX10_say_45 : decode cX10_say 45 = .ok (.bipush 31, 2) := by decide +kernel
theorem dX10_say_47 : decode cX10_say 47 = .ok (.if_icmp .ge 77, 3) := by decide +kernel
theorem dX10_say_50 : decode cX10_say 50 = .ok (.iload_n 2, 1) := by decide +kernel
theorem dX10_say_51 : decode cX10_say 51 = .ok (.iload 4, 2) := by decide +kernel
theorem dX10_say_53 : decode cX10_say 53 = .ok (.invokestatic 98, 3) := by decide +kernel
theorem dX10_say_56 : decode cX10_say 56 = .ok (.ifCond .ne 6, 3) := by decide +kernel
theorem dX10_say_59 : decode cX10_say 59 = .ok (.goto 59, 3) := by decide +kernel
theorem dX10_say_62 : decode cX10_say 62 = .ok (.aload_n 0, 1) := by decide +kernel
theorem dX10_say_63 : decode cX10_say 63 = .ok (.getfield 216, 3) := by decide +kernel
theorem dX10_say_66 : decode cX10_say 66 = .ok (.ifCond .le 9, 3) := by decide +kernel
theorem dX10_say_69 : decode cX10_say 69 = .ok (.aload_n 0, 1) := by decide +kernel
theorem dX10_say_70 : decode cX10_say 70 = .ok (.bipush 44, 2) := by decide +kernel
theorem dX10_say_72 : decode cX10_say 72 = .ok (.invokevirtual 219, 3) := by decide +kernel
theorem dX10_say_75 : decode cX10_say 75 = .ok (.aload_n 0, 1) := by decide +kernel
theorem dX10_say_76 : decode cX10_say 76 = .ok (.iload 4, 2) := by decide +kernel
theorem dX10_say_78 : decode cX10_say 78 = .ok (.invokevirtual 223, 3) := by decide +kernel
theorem dX10_say_81 : decode cX10_say 81 = .ok (.aload_n 0, 1) := by decide +kernel
theorem dX10_say_82 : decode cX10_say 82 = .ok (.iload_n 3, 1) := by decide +kernel
theorem dX10_say_83 : decode cX10_say 83 = .ok (.iload 4, 2) := by decide +kernel
theorem dX10_say_85 : decode cX10_say 85 = .ok (.invokestatic 98, 3) := by decide +kernel
theorem dX10_say_88 : decode cX10_say 88 = .ok (.ifCond .eq 8, 3) := by decide +kernel
theorem dX10_say_91 : decode cX10_say 91 = .ok (.bipush 121, 2) := by decide +kernel
theorem dX10_say_93 : decode cX10_say 93 = .ok (.goto 5, 3) := by decide +kernel
theorem dX10_say_96 : decode cX10_say 96 = .ok (.bipush 110, 2) := by decide +kernel
theorem dX10_say_98 : decode cX10_say 98 = .ok (.invokevirtual 219, 3) := by decide +kernel
theorem dX10_say_101 : decode cX10_say 101 = .ok (.aload_n 0, 1) := by decide +kernel
theorem dX10_say_102 : decode cX10_say 102 = .ok (.bipush 64, 2) := by decide +kernel
theorem dX10_say_104 : decode cX10_say 104 = .ok (.invokevirtual 219, 3) := by decide +kernel
theorem dX10_say_107 : decode cX10_say 107 = .ok (.aload_n 0, 1) := by decide +kernel
theorem dX10_say_108 : decode cX10_say 108 = .ok (.aload_n 0, 1) := by decide +kernel
theorem dX10_say_109 : decode cX10_say 109 = .ok (.iload_n 1, 1) := by decide +kernel
theorem dX10_say_110 : decode cX10_say 110 = .ok (.iload 4, 2) := by decide +kernel
theorem dX10_say_112 : decode cX10_say 112 = .ok (.invokevirtual 140, 3) := by decide +kernel
theorem dX10_say_115 : decode cX10_say 115 = .ok (.invokevirtual 223, 3) := by decide +kernel
theorem dX10_say_118 : decode cX10_say 118 = .ok (.iinc 4 1, 3) := by decide +kernel
theorem dX10_say_121 : decode cX10_say 121 = .ok (.goto (-78), 3) := by decide +kernel
theorem dX10_say_124 : decode cX10_say 124 = .ok (.aload_n 0, 1) := by decide +kernel
theorem dX10_say_125 : decode cX10_say 125 = .ok (.iload_n 1, 1) := by decide +kernel
theorem dX10_say_126 : decode cX10_say 126 = .ok (.invokevirtual 193, 3) := by decide +kernel
theorem dX10_say_129 : decode cX10_say 129 = .ok (.istore 4, 2) := by decide +kernel
theorem dX10_say_131 : decode cX10_say 131 = .ok (.iload 4, 2) := by decide +kernel
theorem dX10_say_133 : decode cX10_say 133 = .ok (.iconst (-1), 1) := by decide +kernel
theorem dX10_say_134 : decode cX10_say 134 = .ok (.if_icmp .eq 15, 3) := by decide +kernel
theorem dX10_say_137 : decode cX10_say 137 = .ok (.aload_n 0, 1) := by decide +kernel
theorem dX10_say_138 : decode cX10_say 138 = .ok (.bipush 33, 2) := by decide +kernel
theorem dX10_say_140 : decode cX10_say 140 = .ok (.invokevirtual 219, 3) := by decide +kernel
theorem dX10_say_143 : decode cX10_say 143 = .ok (.aload_n 0, 1) := by decide +kernel
theorem dX10_say_144 : decode cX10_say 144 = .ok (.iload 4, 2) := by decide +kernel
theorem dX10_say_146 : decode cX10_say 146 = .ok (.invokevirtual 223, 3) := by decide +kernel
theorem dX10_say_149 : decode cX10_say 149 = .ok (.aload_n 0, 1) := by decide +kernel
theorem dX10_say_150 : decode cX10_say 150 = .ok (.getfield 216, 3) := by decide +kernel
theorem dX10_say_153 : decode cX10_say 153 = .ok (.ireturn, 1) := by decide +kernel
theorem dX10_said_0 : decode cX10_said 0 = .ok (.aload_n 0, 1) := by decide +kernel
theorem dX10_said_1 : decode cX10_said 1 = .ok (.iconst 0, 1) := by decide +kernel
theorem dX10_said_2 : decode cX10_said 2 = .ok (.putfield 51, 3) := by decide +kernel
theorem dX10_said_5 : decode cX10_said 5 = .ok (.iload_n 1, 1) := by decide +kernel
theorem dX10_said_6 : decode cX10_said 6 = .ok (.iconst 0, 1) := by decide +kernel
theorem dX10_said_7 : decode cX10_said 7 = .ok (.aload_n 0, 1) := by decide +kernel
theorem dX10_said_8 : decode cX10_said 8 = .ok (.getfield 216, 3) := by decide +kernel
theorem dX10_said_11 : decode cX10_said 11 = .ok (.iconst 1, 1) := by decide +kernel
theorem dX10_said_12 : decode cX10_said 12 = .ok (.isub, 1) := by decide +kernel
theorem dX10_said_13 : decode cX10_said 13 = .ok (.invokestatic 58, 3) := by decide +kernel
theorem dX10_said_16 : decode cX10_said 16 = .ok (.ifCond .eq 12, 3) := by decide +kernel
theorem dX10_said_19 : decode cX10_said 19 = .ok (.aload_n 0, 1) := by decide +kernel
theorem dX10_said_20 : decode cX10_said 20 = .ok (.getfield 37, 3) := by decide +kernel
theorem dX10_said_23 : decode cX10_said 23 = .ok (.iload_n 1, 1) := by decide +kernel
theorem dX10_said_24 : decode cX10_said 24 = .ok (.iaload, 1) := by decide +kernel
theorem dX10_said_25 : decode cX10_said 25 = .ok (.goto 4, 3) := by decide +kernel
theorem dX10_said_28 : decode cX10_said 28 = .ok (.iconst (-1), 1) := by decide +kernel
theorem dX10_said_29 : decode cX10_said 29 = .ok (.ireturn, 1) := by decide +kernel
theorem dX10_keep_0 : decode cX10_keep 0 = .ok (.aload_n 0, 1) := by decide +kernel
theorem dX10_keep_1 : decode cX10_keep 1 = .ok (.getfield 162, 3) := by decide +kernel
theorem dX10_keep_4 : decode cX10_keep 4 = .ok (.bipush 12, 2) := by decide +kernel
theorem dX10_keep_6 : decode cX10_keep 6 = .ok (.if_icmp .ne 46, 3) := by decide +kernel
theorem dX10_keep_9 : decode cX10_keep 9 = .ok (.sipush 330, 3) := by decide +kernel
theorem dX10_keep_12 : decode cX10_keep 12 = .ok (.istore_n 1, 1) := by decide +kernel
theorem dX10_keep_13 : decode cX10_keep 13 = .ok (.iload_n 1, 1) := by decide +kernel
theorem dX10_keep_14 : decode cX10_keep 14 = .ok (.sipush 3960, 3) := by decide +kernel
theorem dX10_keep_17 : decode cX10_keep 17 = .ok (.if_icmp .ge 25, 3) := by decide +kernel
theorem dX10_keep_20 : decode cX10_keep 20 = .ok (.aload_n 0, 1) := by decide +kernel
theorem dX10_keep_21 : decode cX10_keep 21 = .ok (.getfield 19, 3) := by decide +kernel
theorem dX10_keep_24 : decode cX10_keep 24 = .ok (.iload_n 1, 1) := by decide +kernel
theorem dX10_keep_25 : decode cX10_keep 25 = .ok (.sipush 330, 3) := by decide +kernel
theorem dX10_keep_28 : decode cX10_keep 28 = .ok (.isub, 1) := by decide +kernel
theorem dX10_keep_29 : decode cX10_keep 29 = .ok (.aload_n 0, 1) := by decide +kernel
theorem dX10_keep_30 : decode cX10_keep 30 = .ok (.getfield 19, 3) := by decide +kernel
theorem dX10_keep_33 : decode cX10_keep 33 = .ok (.iload_n 1, 1) := by decide +kernel
theorem dX10_keep_34 : decode cX10_keep 34 = .ok (.iaload, 1) := by decide +kernel
theorem dX10_keep_35 : decode cX10_keep 35 = .ok (.iastore, 1) := by decide +kernel
theorem dX10_keep_36 : decode cX10_keep 36 = .ok (.iinc 1 1, 3) := by decide +kernel
theorem dX10_keep_39 : decode cX10_keep 39 = .ok (.goto (-26), 3) := by decide +kernel
theorem dX10_keep_42 : decode cX10_keep 42 = .ok (.aload_n 0, 1) := by decide +kernel
theorem dX10_keep_43 : decode cX10_keep 43 = .ok (.dup, 1) := by decide +kernel
theorem dX10_keep_44 : decode cX10_keep 44 = .ok (.getfield 162, 3) := by decide +kernel
theorem dX10_keep_47 : decode cX10_keep 47 = .ok (.iconst 1, 1) := by decide +kernel
theorem dX10_keep_48 : decode cX10_keep 48 = .ok (.isub, 1) := by decide +kernel
theorem dX10_keep_49 : decode cX10_keep 49 = .ok (.putfield 162, 3) := by decide +kernel
theorem dX10_keep_52 : decode cX10_keep 52 = .ok (.iconst 0, 1) := by decide +kernel
theorem dX10_keep_53 : decode cX10_keep 53 = .ok (.istore_n 1, 1) := by decide +kernel
theorem dX10_keep_54 : decode cX10_keep 54 = .ok (.iload_n 1, 1) := by decide +kernel
theorem dX10_keep_55 : decode cX10_keep 55 = .ok (.sipush 330, 3) := by decide +kernel
theorem dX10_keep_58 : decode cX10_keep 58 = .ok (.if_icmp .ge 30, 3) := by decide +kernel
theorem dX10_keep_61 : decode cX10_keep 61 = .ok (.aload_n 0, 1) := by decide +kernel
theorem dX10_keep_62 : decode cX10_keep 62 = .ok (.getfield 19, 3) := by decide +kernel
theorem dX10_keep_65 : decode cX10_keep 65 = .ok (.sipush 330, 3) := by decide +kernel
theorem dX10_keep_68 : decode cX10_keep 68 = .ok (.aload_n 0, 1) := by decide +kernel
theorem dX10_keep_69 : decode cX10_keep 69 = .ok (.getfield 162, 3) := by decide +kernel
theorem dX10_keep_72 : decode cX10_keep 72 = .ok (.imul, 1) := by decide +kernel
theorem dX10_keep_73 : decode cX10_keep 73 = .ok (.iload_n 1, 1) := by decide +kernel
theorem dX10_keep_74 : decode cX10_keep 74 = .ok (.iadd, 1) := by decide +kernel
theorem dX10_keep_75 : decode cX10_keep 75 = .ok (.aload_n 0, 1) := by decide +kernel
theorem dX10_keep_76 : decode cX10_keep 76 = .ok (.getfield 9, 3) := by decide +kernel
theorem dX10_keep_79 : decode cX10_keep 79 = .ok (.iload_n 1, 1) := by decide +kernel
theorem dX10_keep_80 : decode cX10_keep 80 = .ok (.iaload, 1) := by decide +kernel
theorem dX10_keep_81 : decode cX10_keep 81 = .ok (.iastore, 1) := by decide +kernel
theorem dX10_keep_82 : decode cX10_keep 82 = .ok (.iinc 1 1, 3) := by decide +kernel
theorem dX10_keep_85 : decode cX10_keep 85 = .ok (.goto (-31), 3) := by decide +kernel
theorem dX10_keep_88 : decode cX10_keep 88 = .ok (.aload_n 0, 1) := by decide +kernel
theorem dX10_keep_89 : decode cX10_keep 89 = .ok (.dup, 1) := by decide +kernel
theorem dX10_keep_90 : decode cX10_keep 90 = .ok (.getfield 162, 3) := by decide +kernel
theorem dX10_keep_93 : decode cX10_keep 93 = .ok (.iconst 1, 1) := by decide +kernel
theorem dX10_keep_94 : decode cX10_keep 94 = .ok (.iadd, 1) := by decide +kernel
theorem dX10_keep_95 : decode cX10_keep 95 = .ok (.putfield 162, 3) := by decide +kernel
theorem dX10_keep_98 : decode cX10_keep 98 = .ok (.return_, 1) := by decide +kernel
theorem dX10_judge_0 : decode cX10_judge 0 = .ok (.aload_n 0, 1) := by decide +kernel
theorem dX10_judge_1 : decode cX10_judge 1 = .ok (.aload_n 0, 1) := by decide +kernel
theorem dX10_judge_2 : decode cX10_judge 2 = .ok (.iload_n 1, 1) := by decide +kernel
theorem dX10_judge_3 : decode cX10_judge 3 = .ok (.invokevirtual 177, 3) := by decide +kernel
theorem dX10_judge_6 : decode cX10_judge 6 = .ok (.ifCond .ne 7, 3) := by decide +kernel
theorem dX10_judge_9 : decode cX10_judge 9 = .ok (.iconst 1, 1) := by decide +kernel
theorem dX10_judge_10 : decode cX10_judge 10 = .ok (.goto 24, 3) := by decide +kernel
theorem dX10_judge_13 : decode cX10_judge 13 = .ok (.iload_n 2, 1) := by decide +kernel
theorem dX10_judge_14 : decode cX10_judge 14 = .ok (.aload_n 0, 1) := by decide +kernel
theorem dX10_judge_15 : decode cX10_judge 15 = .ok (.iload_n 1, 1) := by decide +kernel
theorem dX10_judge_16 : decode cX10_judge 16 = .ok (.iconst 2, 1) := by decide +kernel
theorem dX10_judge_17 : decode cX10_judge 17 = .ok (.invokevirtual 65, 3) := by decide +kernel
theorem dX10_judge_20 : decode cX10_judge 20 = .ok (.sipush 9999, 3) := by decide +kernel
theorem dX10_judge_23 : decode cX10_judge 23 = .ok (.invokestatic 58, 3) := by decide +kernel
theorem dX10_judge_26 : decode cX10_judge 26 = .ok (.ifCond .ne 7, 3) := by decide +kernel
theorem dX10_judge_29 : decode cX10_judge 29 = .ok (.iconst 2, 1) := by decide +kernel
theorem dX10_judge_30 : decode cX10_judge 30 = .ok (.goto 4, 3) := by decide +kernel
theorem dX10_judge_33 : decode cX10_judge 33 = .ok (.iconst 0, 1) := by decide +kernel
theorem dX10_judge_34 : decode cX10_judge 34 = .ok (.putfield 51, 3) := by decide +kernel
theorem dX10_judge_37 : decode cX10_judge 37 = .ok (.aload_n 0, 1) := by decide +kernel
theorem dX10_judge_38 : decode cX10_judge 38 = .ok (.getfield 51, 3) := by decide +kernel
theorem dX10_judge_41 : decode cX10_judge 41 = .ok (.ifCond .gt 11, 3) := by decide +kernel
theorem dX10_judge_44 : decode cX10_judge 44 = .ok (.aload_n 0, 1) := by decide +kernel
theorem dX10_judge_45 : decode cX10_judge 45 = .ok (.iload_n 1, 1) := by decide +kernel
theorem dX10_judge_46 : decode cX10_judge 46 = .ok (.invokevirtual 69, 3) := by decide +kernel
theorem dX10_judge_49 : decode cX10_judge 49 = .ok (.ifCond .eq 5, 3) := by decide +kernel
theorem dX10_judge_52 : decode cX10_judge 52 = .ok (.iconst 0, 1) := by decide +kernel
theorem dX10_judge_53 : decode cX10_judge 53 = .ok (.ireturn, 1) := by decide +kernel
theorem dX10_judge_54 : decode cX10_judge 54 = .ok (.aload_n 0, 1) := by decide +kernel
theorem dX10_judge_55 : decode cX10_judge 55 = .ok (.invokevirtual 226, 3) := by decide +kernel
theorem dX10_judge_58 : decode cX10_judge 58 = .ok (.aload_n 0, 1) := by decide +kernel
theorem dX10_judge_59 : decode cX10_judge 59 = .ok (.iload_n 1, 1) := by decide +kernel
theorem dX10_judge_60 : decode cX10_judge 60 = .ok (.bipush 6, 2) := by decide +kernel
theorem dX10_judge_62 : decode cX10_judge 62 = .ok (.iload_n 2, 1) := by decide +kernel
theorem dX10_judge_63 : decode cX10_judge 63 = .ok (.invokevirtual 205, 3) := by decide +kernel
theorem dX10_judge_66 : decode cX10_judge 66 = .ok (.aload_n 0, 1) := by decide +kernel
theorem dX10_judge_67 : decode cX10_judge 67 = .ok (.iload_n 1, 1) := by decide +kernel
theorem dX10_judge_68 : decode cX10_judge 68 = .ok (.bipush 7, 2) := by decide +kernel
theorem dX10_judge_70 : decode cX10_judge 70 = .ok (.iload_n 3, 1) := by decide +kernel
theorem dX10_judge_71 : decode cX10_judge 71 = .ok (.ifCond .eq 7, 3) := by decide +kernel
theorem dX10_judge_74 : decode cX10_judge 74 = .ok (.iconst 1, 1) := by decide +kernel
theorem dX10_judge_75 : decode cX10_judge 75 = .ok (.goto 4, 3) := by decide +kernel
theorem dX10_judge_78 : decode cX10_judge 78 = .ok (.iconst 0, 1) := by decide +kernel
theorem dX10_judge_79 : decode cX10_judge 79 = .ok (.invokevirtual 205, 3) := by decide +kernel
theorem dX10_judge_82 : decode cX10_judge 82 = .ok (.iconst 1, 1) := by decide +kernel
theorem dX10_judge_83 : decode cX10_judge 83 = .ok (.ireturn, 1) := by decide +kernel
theorem dX10_sets_0 : decode cX10_sets 0 = .ok (.aload_n 0, 1) := by decide +kernel
theorem dX10_sets_1 : decode cX10_sets 1 = .ok (.iload_n 1, 1) := by decide +kernel
theorem dX10_sets_2 : decode cX10_sets 2 = .ok (.iload_n 2, 1) := by decide +kernel
theorem dX10_sets_3 : decode cX10_sets 3 = .ok (.invokevirtual 65, 3) := by decide +kernel
theorem dX10_sets_6 : decode cX10_sets 6 = .ok (.iconst 1, 1) := by decide +kernel
theorem dX10_sets_7 : decode cX10_sets 7 = .ok (.iload_n 3, 1) := by decide +kernel
theorem dX10_sets_8 : decode cX10_sets 8 = .ok (.ishl, 1) := by decide +kernel
theorem dX10_sets_9 : decode cX10_sets 9 = .ok (.iconst (-1), 1) := by decide +kernel
theorem dX10_sets_10 : decode cX10_sets 10 = .ok (.ixor, 1) := by decide +kernel
theorem dX10_sets_11 : decode cX10_sets 11 = .ok (.iand, 1) := by decide +kernel
theorem dX10_sets_12 : decode cX10_sets 12 = .ok (.istore 5, 2) := by decide +kernel
theorem dX10_sets_14 : decode cX10_sets 14 = .ok (.aload_n 0, 1) := by decide +kernel
theorem dX10_sets_15 : decode cX10_sets 15 = .ok (.iload_n 1, 1) := by decide +kernel
theorem dX10_sets_16 : decode cX10_sets 16 = .ok (.iload_n 2, 1) := by decide +kernel
theorem dX10_sets_17 : decode cX10_sets 17 = .ok (.iload 4, 2) := by decide +kernel
theorem dX10_sets_19 : decode cX10_sets 19 = .ok (.ifCond .eq 12, 3) := by decide +kernel
theorem dX10_sets_22 : decode cX10_sets 22 = .ok (.iload 5, 2) := by decide +kernel
theorem dX10_sets_24 : decode cX10_sets 24 = .ok (.iconst 1, 1) := by decide +kernel
theorem dX10_sets_25 : decode cX10_sets 25 = .ok (.iload_n 3, 1) := by decide +kernel
theorem dX10_sets_26 : decode cX10_sets 26 = .ok (.ishl, 1) := by decide +kernel
theorem dX10_sets_27 : decode cX10_sets 27 = .ok (.ior, 1) := by decide +kernel
theorem dX10_sets_28 : decode cX10_sets 28 = .ok (.goto 5, 3) := by decide +kernel
theorem dX10_sets_31 : decode cX10_sets 31 = .ok (.iload 5, 2) := by decide +kernel
theorem dX10_sets_33 : decode cX10_sets 33 = .ok (.invokevirtual 205, 3) := by decide +kernel
theorem dX10_sets_36 : decode cX10_sets 36 = .ok (.return_, 1) := by decide +kernel
theorem dX10_find_0 : decode cX10_find 0 = .ok (.aload_n 0, 1) := by decide +kernel
theorem dX10_find_1 : decode cX10_find 1 = .ok (.iload_n 1, 1) := by decide +kernel
theorem dX10_find_2 : decode cX10_find 2 = .ok (.invokevirtual 177, 3) := by decide +kernel
theorem dX10_find_5 : decode cX10_find 5 = .ok (.ifCond .eq 29, 3) := by decide +kernel
theorem dX10_find_8 : decode cX10_find 8 = .ok (.iload_n 2, 1) := by decide +kernel
theorem dX10_find_9 : decode cX10_find 9 = .ok (.iconst 0, 1) := by decide +kernel
theorem dX10_find_10 : decode cX10_find 10 = .ok (.bipush 30, 2) := by decide +kernel
theorem dX10_find_12 : decode cX10_find 12 = .ok (.invokestatic 58, 3) := by decide +kernel
theorem dX10_find_15 : decode cX10_find 15 = .ok (.ifCond .eq 19, 3) := by decide +kernel
theorem dX10_find_18 : decode cX10_find 18 = .ok (.aload_n 0, 1) := by decide +kernel
theorem dX10_find_19 : decode cX10_find 19 = .ok (.iload_n 1, 1) := by decide +kernel
theorem dX10_find_20 : decode cX10_find 20 = .ok (.invokevirtual 137, 3) := by decide +kernel
theorem dX10_find_23 : decode cX10_find 23 = .ok (.iload_n 2, 1) := by decide +kernel
theorem dX10_find_24 : decode cX10_find 24 = .ok (.invokestatic 98, 3) := by decide +kernel
theorem dX10_find_27 : decode cX10_find 27 = .ok (.ifCond .eq 7, 3) := by decide +kernel
theorem dX10_find_30 : decode cX10_find 30 = .ok (.iconst 1, 1) := by decide +kernel
theorem dX10_find_31 : decode cX10_find 31 = .ok (.goto 4, 3) := by decide +kernel
theorem dX10_find_34 : decode cX10_find 34 = .ok (.iconst 0, 1) := by decide +kernel
theorem dX10_find_35 : decode cX10_find 35 = .ok (.istore 5, 2) := by decide +kernel
theorem dX10_find_37 : decode cX10_find 37 = .ok (.aload_n 0, 1) := by decide +kernel
theorem dX10_find_38 : decode cX10_find 38 = .ok (.iload 5, 2) := by decide +kernel
theorem dX10_find_40 : decode cX10_find 40 = .ok (.ifCond .ne 7, 3) := by decide +kernel
theorem dX10_find_43 : decode cX10_find 43 = .ok (.iconst 1, 1) := by decide +kernel
theorem dX10_find_44 : decode cX10_find 44 = .ok (.goto 17, 3) := by decide +kernel
theorem dX10_find_47 : decode cX10_find 47 = .ok (.iload_n 3, 1) := by decide +kernel
theorem dX10_find_48 : decode cX10_find 48 = .ok (.iconst (-1), 1) := by decide +kernel
theorem dX10_find_49 : decode cX10_find 49 = .ok (.iconst 1, 1) := by decide +kernel
theorem dX10_find_50 : decode cX10_find 50 = .ok (.invokestatic 58, 3) := by decide +kernel
theorem dX10_find_53 : decode cX10_find 53 = .ok (.ifCond .ne 7, 3) := by decide +kernel
theorem dX10_find_56 : decode cX10_find 56 = .ok (.iconst 2, 1) := by decide +kernel
theorem dX10_find_57 : decode cX10_find 57 = .ok (.goto 4, 3) := by decide +kernel
theorem dX10_find_60 : decode cX10_find 60 = .ok (.iconst 0, 1) := by decide +kernel
theorem dX10_find_61 : decode cX10_find 61 = .ok (.putfield 51, 3) := by decide +kernel
theorem dX10_find_64 : decode cX10_find 64 = .ok (.aload_n 0, 1) := by decide +kernel
theorem dX10_find_65 : decode cX10_find 65 = .ok (.getfield 51, 3) := by decide +kernel
theorem dX10_find_68 : decode cX10_find 68 = .ok (.ifCond .le 5, 3) := by decide +kernel
theorem dX10_find_71 : decode cX10_find 71 = .ok (.iconst 0, 1) := by decide +kernel
theorem dX10_find_72 : decode cX10_find 72 = .ok (.ireturn, 1) := by decide +kernel
theorem dX10_find_73 : decode cX10_find 73 = .ok (.aload_n 0, 1) := by decide +kernel
theorem dX10_find_74 : decode cX10_find 74 = .ok (.iload_n 1, 1) := by decide +kernel
theorem dX10_find_75 : decode cX10_find 75 = .ok (.invokevirtual 69, 3) := by decide +kernel
theorem dX10_find_78 : decode cX10_find 78 = .ok (.ifCond .ne 5, 3) := by decide +kernel
theorem dX10_find_81 : decode cX10_find 81 = .ok (.iconst (-1), 1) := by decide +kernel
theorem dX10_find_82 : decode cX10_find 82 = .ok (.ireturn, 1) := by decide +kernel
theorem dX10_find_83 : decode cX10_find 83 = .ok (.aload_n 0, 1) := by decide +kernel
theorem dX10_find_84 : decode cX10_find 84 = .ok (.invokevirtual 226, 3) := by decide +kernel
theorem dX10_find_87 : decode cX10_find 87 = .ok (.aload_n 0, 1) := by decide +kernel
theorem dX10_find_88 : decode cX10_find 88 = .ok (.iload_n 1, 1) := by decide +kernel
theorem dX10_find_89 : decode cX10_find 89 = .ok (.iload_n 2, 1) := by decide +kernel
theorem dX10_find_90 : decode cX10_find 90 = .ok (.invokevirtual 128, 3) := by decide +kernel
theorem dX10_find_93 : decode cX10_find 93 = .ok (.ifCond .eq 7, 3) := by decide +kernel
theorem dX10_find_96 : decode cX10_find 96 = .ok (.iconst 1, 1) := by decide +kernel
theorem dX10_find_97 : decode cX10_find 97 = .ok (.goto 22, 3) := by decide +kernel
theorem dX10_find_100 : decode cX10_find 100 = .ok (.aload_n 0, 1) := by decide +kernel
theorem dX10_find_101 : decode cX10_find 101 = .ok (.iload_n 1, 1) := by decide +kernel
theorem dX10_find_102 : decode cX10_find 102 = .ok (.bipush 10, 2) := by decide +kernel
theorem dX10_find_104 : decode cX10_find 104 = .ok (.invokevirtual 65, 3) := by decide +kernel
theorem dX10_find_107 : decode cX10_find 107 = .ok (.iload_n 2, 1) := by decide +kernel
theorem dX10_find_108 : decode cX10_find 108 = .ok (.invokestatic 98, 3) := by decide +kernel
theorem dX10_find_111 : decode cX10_find 111 = .ok (.ifCond .eq 7, 3) := by decide +kernel
theorem dX10_find_114 : decode cX10_find 114 = .ok (.iconst 0, 1) := by decide +kernel
theorem dX10_find_115 : decode cX10_find 115 = .ok (.goto 4, 3) := by decide +kernel
theorem dX10_find_118 : decode cX10_find 118 = .ok (.iconst (-1), 1) := by decide +kernel
theorem dX10_find_119 : decode cX10_find 119 = .ok (.istore 6, 2) := by decide +kernel
theorem dX10_find_121 : decode cX10_find 121 = .ok (.aload_n 0, 1) := by decide +kernel
theorem dX10_find_122 : decode cX10_find 122 = .ok (.iload_n 1, 1) := by decide +kernel
theorem dX10_find_123 : decode cX10_find 123 = .ok (.bipush 9, 2) := by decide +kernel
theorem dX10_find_125 : decode cX10_find 125 = .ok (.iload_n 2, 1) := by decide +kernel
theorem dX10_find_126 : decode cX10_find 126 = .ok (.iload_n 3, 1) := by decide +kernel
theorem dX10_find_127 : decode cX10_find 127 = .ok (.iconst 1, 1) := by decide +kernel
theorem dX10_find_128 : decode cX10_find 128 = .ok (.if_icmp .ne 7, 3) := by decide +kernel
theorem dX10_find_131 : decode cX10_find 131 = .ok (.iconst 1, 1) := by decide +kernel
theorem dX10_find_132 : decode cX10_find 132 = .ok (.goto 4, 3) := by decide +kernel
theorem dX10_find_135 : decode cX10_find 135 = .ok (.iconst 0, 1) := by decide +kernel
theorem dX10_find_136 : decode cX10_find 136 = .ok (.invokevirtual 229, 3) := by decide +kernel
theorem dX10_find_139 : decode cX10_find 139 = .ok (.aload_n 0, 1) := by decide +kernel
theorem dX10_find_140 : decode cX10_find 140 = .ok (.iload_n 1, 1) := by decide +kernel
theorem dX10_find_141 : decode cX10_find 141 = .ok (.bipush 10, 2) := by decide +kernel
theorem dX10_find_143 : decode cX10_find 143 = .ok (.iload_n 2, 1) := by decide +kernel
theorem dX10_find_144 : decode cX10_find 144 = .ok (.iload_n 3, 1) := by decide +kernel
theorem dX10_find_145 : decode cX10_find 145 = .ok (.ifCond .ne 7, 3) := by decide +kernel
theorem dX10_find_148 : decode cX10_find 148 = .ok (.iconst 1, 1) := by decide +kernel
theorem dX10_find_149 : decode cX10_find 149 = .ok (.goto 4, 3) := by decide +kernel
theorem dX10_find_152 : decode cX10_find 152 = .ok (.iconst 0, 1) := by decide +kernel
theorem dX10_find_153 : decode cX10_find 153 = .ok (.invokevirtual 229, 3) := by decide +kernel
theorem dX10_find_156 : decode cX10_find 156 = .ok (.aload_n 0, 1) := by decide +kernel
theorem dX10_find_157 : decode cX10_find 157 = .ok (.iload_n 1, 1) := by decide +kernel
theorem dX10_find_158 : decode cX10_find 158 = .ok (.bipush 11, 2) := by decide +kernel
theorem dX10_find_160 : decode cX10_find 160 = .ok (.iload_n 2, 1) := by decide +kernel
theorem dX10_find_161 : decode cX10_find 161 = .ok (.iload_n 3, 1) := by decide +kernel
theorem dX10_find_162 : decode cX10_find 162 = .ok (.iconst (-1), 1) := by decide +kernel
theorem dX10_find_163 : decode cX10_find 163 = .ok (.if_icmp .eq 12, 3) := by decide +kernel
theorem dX10_find_166 : decode cX10_find 166 = .ok (.iload 4, 2) := by decide +kernel
theorem dX10_find_168 : decode cX10_find 168 = .ok (.ifCond .ne 7, 3) := by decide +kernel
theorem dX10_find_171 : decode cX10_find 171 = .ok (.iconst 1, 1) := by decide +kernel
theorem dX10_find_172 : decode cX10_find 172 = .ok (.goto 4, 3) := by decide +kernel
theorem dX10_find_175 : decode cX10_find 175 = .ok (.iconst 0, 1) := by decide +kernel
theorem dX10_find_176 : decode cX10_find 176 = .ok (.invokevirtual 229, 3) := by decide +kernel
theorem dX10_find_179 : decode cX10_find 179 = .ok (.iload 6, 2) := by decide +kernel
theorem dX10_find_181 : decode cX10_find 181 = .ok (.ireturn, 1) := by decide +kernel
theorem dX10_reverse_0 : decode cX10_reverse 0 = .ok (.aload_n 0, 1) := by decide +kernel
theorem dX10_reverse_1 : decode cX10_reverse 1 = .ok (.aload_n 0, 1) := by decide +kernel
theorem dX10_reverse_2 : decode cX10_reverse 2 = .ok (.iload_n 1, 1) := by decide +kernel
theorem dX10_reverse_3 : decode cX10_reverse 3 = .ok (.invokevirtual 177, 3) := by decide +kernel
theorem dX10_reverse_6 : decode cX10_reverse 6 = .ok (.ifCond .ne 7, 3) := by decide +kernel
theorem dX10_reverse_9 : decode cX10_reverse 9 = .ok (.iconst 1, 1) := by decide +kernel
theorem dX10_reverse_10 : decode cX10_reverse 10 = .ok (.goto 4, 3) := by decide +kernel
theorem dX10_reverse_13 : decode cX10_reverse 13 = .ok (.iconst 0, 1) := by decide +kernel
theorem dX10_reverse_14 : decode cX10_reverse 14 = .ok (.putfield 51, 3) := by decide +kernel
theorem dX10_reverse_17 : decode cX10_reverse 17 = .ok (.aload_n 0, 1) := by decide +kernel
theorem dX10_reverse_18 : decode cX10_reverse 18 = .ok (.getfield 51, 3) := by decide +kernel
theorem dX10_reverse_21 : decode cX10_reverse 21 = .ok (.ifCond .gt 11, 3) := by decide +kernel
theorem dX10_reverse_24 : decode cX10_reverse 24 = .ok (.aload_n 0, 1) := by decide +kernel
theorem dX10_reverse_25 : decode cX10_reverse 25 = .ok (.iload_n 1, 1) := by decide +kernel
theorem dX10_reverse_26 : decode cX10_reverse 26 = .ok (.invokevirtual 69, 3) := by decide +kernel
theorem dX10_reverse_29 : decode cX10_reverse 29 = .ok (.ifCond .ne 5, 3) := by decide +kernel
theorem dX10_reverse_32 : decode cX10_reverse 32 = .ok (.iconst 0, 1) := by decide +kernel
theorem dX10_reverse_33 : decode cX10_reverse 33 = .ok (.ireturn, 1) := by decide +kernel
theorem dX10_reverse_34 : decode cX10_reverse 34 = .ok (.aload_n 0, 1) := by decide +kernel
theorem dX10_reverse_35 : decode cX10_reverse 35 = .ok (.invokevirtual 226, 3) := by decide +kernel
theorem dX10_reverse_38 : decode cX10_reverse 38 = .ok (.aload_n 0, 1) := by decide +kernel
theorem dX10_reverse_39 : decode cX10_reverse 39 = .ok (.iload_n 1, 1) := by decide +kernel
theorem dX10_reverse_40 : decode cX10_reverse 40 = .ok (.bipush 8, 2) := by decide +kernel
theorem dX10_reverse_42 : decode cX10_reverse 42 = .ok (.iconst 1, 1) := by decide +kernel
theorem dX10_reverse_43 : decode cX10_reverse 43 = .ok (.aload_n 0, 1) := by decide +kernel
theorem dX10_reverse_44 : decode cX10_reverse 44 = .ok (.iload_n 1, 1) := by decide +kernel
theorem dX10_reverse_45 : decode cX10_reverse 45 = .ok (.bipush 8, 2) := by decide +kernel
theorem dX10_reverse_47 : decode cX10_reverse 47 = .ok (.invokevirtual 65, 3) := by decide +kernel
theorem dX10_reverse_50 : decode cX10_reverse 50 = .ok (.isub, 1) := by decide +kernel
theorem dX10_reverse_51 : decode cX10_reverse 51 = .ok (.invokevirtual 205, 3) := by decide +kernel
theorem dX10_reverse_54 : decode cX10_reverse 54 = .ok (.aload_n 0, 1) := by decide +kernel
theorem dX10_reverse_55 : decode cX10_reverse 55 = .ok (.iload_n 1, 1) := by decide +kernel
theorem dX10_reverse_56 : decode cX10_reverse 56 = .ok (.invokevirtual 86, 3) := by decide +kernel
theorem dX10_reverse_59 : decode cX10_reverse 59 = .ok (.ireturn, 1) := by decide +kernel
theorem dX10_layLink_0 : decode cX10_layLink 0 = .ok (.bipush 78, 2) := by decide +kernel
theorem dX10_layLink_2 : decode cX10_layLink 2 = .ok (.iconst 5, 1) := by decide +kernel
theorem dX10_layLink_3 : decode cX10_layLink 3 = .ok (.iload_n 1, 1) := by decide +kernel
theorem dX10_layLink_4 : decode cX10_layLink 4 = .ok (.imul, 1) := by decide +kernel
theorem dX10_layLink_5 : decode cX10_layLink 5 = .ok (.iadd, 1) := by decide +kernel
theorem dX10_layLink_6 : decode cX10_layLink 6 = .ok (.istore 7, 2) := by decide +kernel
theorem dX10_layLink_8 : decode cX10_layLink 8 = .ok (.aload_n 0, 1) := by decide +kernel
theorem dX10_layLink_9 : decode cX10_layLink 9 = .ok (.iload 7, 2) := by decide +kernel
theorem dX10_layLink_11 : decode cX10_layLink 11 = .ok (.iconst 0, 1) := by decide +kernel
theorem dX10_layLink_12 : decode cX10_layLink 12 = .ok (.iadd, 1) := by decide +kernel
theorem dX10_layLink_13 : decode cX10_layLink 13 = .ok (.iload_n 2, 1) := by decide +kernel
theorem dX10_layLink_14 : decode cX10_layLink 14 = .ok (.iastore, 1) := by decide +kernel
theorem dX10_layLink_15 : decode cX10_layLink 15 = .ok (.aload_n 0, 1) := by decide +kernel
theorem dX10_layLink_16 : decode cX10_layLink 16 = .ok (.iload 7, 2) := by decide +kernel
theorem dX10_layLink_18 : decode cX10_layLink 18 = .ok (.iconst 1, 1) := by decide +kernel
theorem dX10_layLink_19 : decode cX10_layLink 19 = .ok (.iadd, 1) := by decide +kernel
theorem dX10_layLink_20 : decode cX10_layLink 20 = .ok (.iload_n 3, 1) := by decide +kernel
theorem dX10_layLink_21 : decode cX10_layLink 21 = .ok (.iastore, 1) := by decide +kernel
theorem dX10_layLink_22 : decode cX10_layLink 22 = .ok (.aload_n 0, 1) := by decide +kernel
theorem dX10_layLink_23 : decode cX10_layLink 23 = .ok (.iload 7, 2) := by decide +kernel
theorem dX10_layLink_25 : decode cX10_layLink 25 = .ok (.iconst 2, 1) := by decide +kernel
theorem dX10_layLink_26 : decode cX10_layLink 26 = .ok (.iadd, 1) := by decide +kernel
theorem dX10_layLink_27 : decode cX10_layLink 27 = .ok (.iload 4, 2) := by decide +kernel
theorem dX10_layLink_29 : decode cX10_layLink 29 = .ok (.iastore, 1) := by decide +kernel
theorem dX10_layLink_30 : decode cX10_layLink 30 = .ok (.aload_n 0, 1) := by decide +kernel
theorem dX10_layLink_31 : decode cX10_layLink 31 = .ok (.iload 7, 2) := by decide +kernel
theorem dX10_layLink_33 : decode cX10_layLink 33 = .ok (.iconst 3, 1) := by decide +kernel
theorem dX10_layLink_34 : decode cX10_layLink 34 = .ok (.iadd, 1) := by decide +kernel
theorem dX10_layLink_35 : decode cX10_layLink 35 = .ok (.iload 5, 2) := by decide +kernel
theorem dX10_layLink_37 : decode cX10_layLink 37 = .ok (.iastore, 1) := by decide +kernel
theorem dX10_layLink_38 : decode cX10_layLink 38 = .ok (.aload_n 0, 1) := by decide +kernel
theorem dX10_layLink_39 : decode cX10_layLink 39 = .ok (.iload 7, 2) := by decide +kernel
theorem dX10_layLink_41 : decode cX10_layLink 41 = .ok (.iconst 4, 1) := by decide +kernel
theorem dX10_layLink_42 : decode cX10_layLink 42 = .ok (.iadd, 1) := by decide +kernel
theorem dX10_layLink_43 : decode cX10_layLink 43 = .ok (.iload 6, 2) := by decide +kernel
theorem dX10_layLink_45 : decode cX10_layLink 45 = .ok (.iastore, 1) := by decide +kernel
theorem dX10_layLink_46 : decode cX10_layLink 46 = .ok (.return_, 1) := by decide +kernel
theorem dX10_tie_0 : decode cX10_tie 0 = .ok (.iload 4, 2) := by decide +kernel
theorem dX10_tie_2 : decode cX10_tie 2 = .ok (.iconst (-1), 1) := by decide +kernel
theorem dX10_tie_3 : decode cX10_tie 3 = .ok (.if_icmp .ne 7, 3) := by decide +kernel
theorem dX10_tie_6 : decode cX10_tie 6 = .ok (.iconst 1, 1) := by decide +kernel
theorem dX10_tie_7 : decode cX10_tie 7 = .ok (.goto 4, 3) := by decide +kernel
theorem dX10_tie_10 : decode cX10_tie 10 = .ok (.iconst 0, 1) := by decide +kernel
theorem dX10_tie_11 : decode cX10_tie 11 = .ok (.istore 5, 2) := by decide +kernel
theorem dX10_tie_13 : decode cX10_tie 13 = .ok (.iload_n 3, 1) := by decide +kernel
theorem dX10_tie_14 : decode cX10_tie 14 = .ok (.iconst 0, 1) := by decide +kernel
theorem dX10_tie_15 : decode cX10_tie 15 = .ok (.sipush 9999, 3) := by decide +kernel
theorem dX10_tie_18 : decode cX10_tie 18 = .ok (.invokestatic 58, 3) := by decide +kernel
theorem dX10_tie_21 : decode cX10_tie 21 = .ok (.ifCond .eq 24, 3) := by decide +kernel
theorem dX10_tie_24 : decode cX10_tie 24 = .ok (.iload 5, 2) := by decide +kernel
theorem dX10_tie_26 : decode cX10_tie 26 = .ok (.ifCond .ne 15, 3) := by decide +kernel
theorem dX10_tie_29 : decode cX10_tie 29 = .ok (.iload 4, 2) := by decide +kernel
theorem dX10_tie_31 : decode cX10_tie 31 = .ok (.iload_n 3, 1) := by decide +kernel
theorem dX10_tie_32 : decode cX10_tie 32 = .ok (.sipush 9999, 3) := by decide +kernel
theorem dX10_tie_35 : decode cX10_tie 35 = .ok (.invokestatic 58, 3) := by decide +kernel
theorem dX10_tie_38 : decode cX10_tie 38 = .ok (.ifCond .eq 7, 3) := by decide +kernel
theorem dX10_tie_41 : decode cX10_tie 41 = .ok (.iconst 1, 1) := by decide +kernel
theorem dX10_tie_42 : decode cX10_tie 42 = .ok (.goto 4, 3) := by decide +kernel
theorem dX10_tie_45 : decode cX10_tie 45 = .ok (.iconst 0, 1) := by decide +kernel
theorem dX10_tie_46 : decode cX10_tie 46 = .ok (.istore 6, 2) := by decide +kernel
theorem dX10_tie_48 : decode cX10_tie 48 = .ok (.aload_n 0, 1) := by decide +kernel
theorem dX10_tie_49 : decode cX10_tie 49 = .ok (.aload_n 0, 1) := by decide +kernel
theorem dX10_tie_50 : decode cX10_tie 50 = .ok (.iload_n 1, 1) := by decide +kernel
theorem dX10_tie_51 : decode cX10_tie 51 = .ok (.invokevirtual 174, 3) := by decide +kernel
theorem dX10_tie_54 : decode cX10_tie 54 = .ok (.ifCond .eq 16, 3) := by decide +kernel
theorem dX10_tie_57 : decode cX10_tie 57 = .ok (.aload_n 0, 1) := by decide +kernel
theorem dX10_tie_58 : decode cX10_tie 58 = .ok (.iload_n 2, 1) := by decide +kernel
theorem dX10_tie_59 : decode cX10_tie 59 = .ok (.invokevirtual 174, 3) := by decide +kernel
theorem dX10_tie_62 : decode cX10_tie 62 = .ok (.ifCond .eq 8, 3) := by decide +kernel
theorem dX10_tie_65 : decode cX10_tie 65 = .ok (.iload_n 1, 1) := by decide +kernel
theorem dX10_tie_66 : decode cX10_tie 66 = .ok (.iload_n 2, 1) := by decide +kernel
theorem dX10_tie_67 : decode cX10_tie 67 = .ok (.if_icmp .ne 7, 3) := by decide +kernel
theorem dX10_tie_70 : decode cX10_tie 70 = .ok (.iconst 1, 1) := by decide +kernel
theorem dX10_tie_71 : decode cX10_tie 71 = .ok (.goto 13, 3) := by decide +kernel
theorem dX10_tie_74 : decode cX10_tie 74 = .ok (.iload 6, 2) := by decide +kernel
theorem dX10_tie_76 : decode cX10_tie 76 = .ok (.ifCond .ne 7, 3) := by decide +kernel
theorem dX10_tie_79 : decode cX10_tie 79 = .ok (.iconst 2, 1) := by decide +kernel
theorem dX10_tie_80 : decode cX10_tie 80 = .ok (.goto 4, 3) := by decide +kernel
theorem dX10_tie_83 : decode cX10_tie 83 = .ok (.iconst 0, 1) := by decide +kernel
theorem dX10_tie_84 : decode cX10_tie 84 = .ok (.putfield 51, 3) := by decide +kernel
theorem dX10_tie_87 : decode cX10_tie 87 = .ok (.aload_n 0, 1) := by decide +kernel
theorem dX10_tie_88 : decode cX10_tie 88 = .ok (.getfield 51, 3) := by decide +kernel
theorem dX10_tie_91 : decode cX10_tie 91 = .ok (.ifCond .le 5, 3) := by decide +kernel
theorem dX10_tie_94 : decode cX10_tie 94 = .ok (.iconst 0, 1) := by decide +kernel
theorem dX10_tie_95 : decode cX10_tie 95 = .ok (.ireturn, 1) := by decide +kernel
theorem dX10_tie_96 : decode cX10_tie 96 = .ok (.aload_n 0, 1) := by decide +kernel
theorem dX10_tie_97 : decode cX10_tie 97 = .ok (.invokevirtual 95, 3) := by decide +kernel
theorem dX10_tie_100 : decode cX10_tie 100 = .ok (.bipush 24, 2) := by decide +kernel
theorem dX10_tie_102 : decode cX10_tie 102 = .ok (.if_icmp .ne 5, 3) := by decide +kernel
theorem dX10_tie_105 : decode cX10_tie 105 = .ok (.iconst (-1), 1) := by decide +kernel
theorem dX10_tie_106 : decode cX10_tie 106 = .ok (.ireturn, 1) := by decide +kernel
theorem dX10_tie_107 : decode cX10_tie 107 = .ok (.aload_n 0, 1) := by decide +kernel
theorem dX10_tie_108 : decode cX10_tie 108 = .ok (.invokevirtual 226, 3) := by decide +kernel
theorem dX10_tie_111 : decode cX10_tie 111 = .ok (.aload_n 0, 1) := by decide +kernel
theorem dX10_tie_112 : decode cX10_tie 112 = .ok (.getfield 9, 3) := by decide +kernel
theorem dX10_tie_115 : decode cX10_tie 115 = .ok (.aload_n 0, 1) := by decide +kernel
theorem dX10_tie_116 : decode cX10_tie 116 = .ok (.invokevirtual 95, 3) := by decide +kernel
theorem dX10_tie_119 : decode cX10_tie 119 = .ok (.iload_n 1, 1) := by decide +kernel
theorem dX10_tie_120 : decode cX10_tie 120 = .ok (.iload_n 2, 1) := by decide +kernel
theorem dX10_tie_121 : decode cX10_tie 121 = .ok (.iload 5, 2) := by decide +kernel
theorem dX10_tie_123 : decode cX10_tie 123 = .ok (.ifCond .eq 7, 3) := by decide +kernel
theorem dX10_tie_126 : decode cX10_tie 126 = .ok (.iconst 0, 1) := by decide +kernel
theorem dX10_tie_127 : decode cX10_tie 127 = .ok (.goto 4, 3) := by decide +kernel
theorem dX10_tie_130 : decode cX10_tie 130 = .ok (.iconst 1, 1) := by decide +kernel
theorem dX10_tie_131 : decode cX10_tie 131 = .ok (.iload_n 3, 1) := by decide +kernel
theorem dX10_tie_132 : decode cX10_tie 132 = .ok (.iload 5, 2) := by decide +kernel
theorem dX10_tie_134 : decode cX10_tie 134 = .ok (.ifCond .eq 9, 3) := by decide +kernel
theorem dX10_tie_137 : decode cX10_tie 137 = .ok (.sipush 9999, 3) := by decide +kernel
theorem dX10_tie_140 : decode cX10_tie 140 = .ok (.goto 5, 3) := by decide +kernel
theorem dX10_tie_143 : decode cX10_tie 143 = .ok (.iload 4, 2) := by decide +kernel
theorem dX10_tie_145 : decode cX10_tie 145 = .ok (.invokestatic 233, 3) := by decide +kernel
theorem dX10_tie_148 : decode cX10_tie 148 = .ok (.aload_n 0, 1) := by decide +kernel
theorem dX10_tie_149 : decode cX10_tie 149 = .ok (.getfield 9, 3) := by decide +kernel
theorem dX10_tie_152 : decode cX10_tie 152 = .ok (.iconst 1, 1) := by decide +kernel
theorem dX10_tie_153 : decode cX10_tie 153 = .ok (.dup2, 1) := by decide +kernel
theorem dX10_tie_154 : decode cX10_tie 154 = .ok (.iaload, 1) := by decide +kernel
theorem dX10_tie_155 : decode cX10_tie 155 = .ok (.iconst 1, 1) := by decide +kernel
theorem dX10_tie_156 : decode cX10_tie 156 = .ok (.iadd, 1) := by decide +kernel
theorem dX10_tie_157 : decode cX10_tie 157 = .ok (.iastore, 1) := by decide +kernel
theorem dX10_tie_158 : decode cX10_tie 158 = .ok (.aload_n 0, 1) := by decide +kernel
theorem dX10_tie_159 : decode cX10_tie 159 = .ok (.invokevirtual 95, 3) := by decide +kernel
theorem dX10_tie_162 : decode cX10_tie 162 = .ok (.iconst 1, 1) := by decide +kernel
theorem dX10_tie_163 : decode cX10_tie 163 = .ok (.isub, 1) := by decide +kernel
theorem dX10_tie_164 : decode cX10_tie 164 = .ok (.ireturn, 1) := by decide +kernel
theorem dX10_cut_0 : decode cX10_cut 0 = .ok (.aload_n 0, 1) := by decide +kernel
theorem dX10_cut_1 : decode cX10_cut 1 = .ok (.iconst 0, 1) := by decide +kernel
theorem dX10_cut_2 : decode cX10_cut 2 = .ok (.putfield 51, 3) := by decide +kernel
theorem dX10_cut_5 : decode cX10_cut 5 = .ok (.iload_n 1, 1) := by decide +kernel
theorem dX10_cut_6 : decode cX10_cut 6 = .ok (.iconst 0, 1) := by decide +kernel
theorem dX10_cut_7 : decode cX10_cut 7 = .ok (.aload_n 0, 1) := by decide +kernel
theorem dX10_cut_8 : decode cX10_cut 8 = .ok (.invokevirtual 95, 3) := by decide +kernel
theorem dX10_cut_11 : decode cX10_cut 11 = .ok (.iconst 1, 1) := by decide +kernel
theorem dX10_cut_12 : decode cX10_cut 12 = .ok (.isub, 1) := by decide +kernel
theorem dX10_cut_13 : decode cX10_cut 13 = .ok (.invokestatic 58, 3) := by decide +kernel
theorem dX10_cut_16 : decode cX10_cut 16 = .ok (.ifCond .ne 9, 3) := by decide +kernel
theorem dX10_cut_19 : decode cX10_cut 19 = .ok (.aload_n 0, 1) := by decide +kernel
theorem dX10_cut_20 : decode cX10_cut 20 = .ok (.iconst 1, 1) := by decide +kernel
theorem dX10_cut_21 : decode cX10_cut 21 = .ok (.invokevirtual 171, 3) := by decide +kernel
theorem dX10_cut_24 : decode cX10_cut 24 = .ok (.ireturn, 1) := by decide +kernel
theorem dX10_cut_25 : decode cX10_cut 25 = .ok (.aload_n 0, 1) := by decide +kernel
theorem dX10_cut_26 : decode cX10_cut 26 = .ok (.invokevirtual 226, 3) := by decide +kernel
theorem dX10_cut_29 : decode cX10_cut 29 = .ok (.bipush 78, 2) := by decide +kernel
theorem dX10_cut_31 : decode cX10_cut 31 = .ok (.iconst 5, 1) := by decide +kernel
theorem dX10_cut_32 : decode cX10_cut 32 = .ok (.iload_n 1, 1) := by decide +kernel
theorem dX10_cut_33 : decode cX10_cut 33 = .ok (.imul, 1) := by decide +kernel
theorem dX10_cut_34 : decode cX10_cut 34 = .ok (.iadd, 1) := by decide +kernel
theorem dX10_cut_35 : decode cX10_cut 35 = .ok (.istore_n 2, 1) := by decide +kernel
theorem dX10_cut_36 : decode cX10_cut 36 = .ok (.iload_n 2, 1) := by decide +kernel
theorem dX10_cut_37 : decode cX10_cut 37 = .ok (.bipush 78, 2) := by decide +kernel
theorem dX10_cut_39 : decode cX10_cut 39 = .ok (.iconst 5, 1) := by decide +kernel
theorem dX10_cut_40 : decode cX10_cut 40 = .ok (.aload_n 0, 1) := by decide +kernel
theorem dX10_cut_41 : decode cX10_cut 41 = .ok (.invokevirtual 95, 3) := by decide +kernel
theorem dX10_cut_44 : decode cX10_cut 44 = .ok (.iconst 1, 1) := by decide +kernel
theorem dX10_cut_45 : decode cX10_cut 45 = .ok (.isub, 1) := by decide +kernel
theorem dX10_cut_46 : decode cX10_cut 46 = .ok (.imul, 1) := by decide +kernel
theorem dX10_cut_47 : decode cX10_cut 47 = .ok (.iadd, 1) := by decide +kernel
theorem dX10_cut_48 : decode cX10_cut 48 = .ok (.if_icmp .ge 23, 3) := by decide +kernel
theorem dX10_cut_51 : decode cX10_cut 51 = .ok (.aload_n 0, 1) := by decide +kernel
theorem dX10_cut_52 : decode cX10_cut 52 = .ok (.getfield 9, 3) := by decide +kernel
theorem dX10_cut_55 : decode cX10_cut 55 = .ok (.iload_n 2, 1) := by decide +kernel
theorem dX10_cut_56 : decode cX10_cut 56 = .ok (.aload_n 0, 1) := by decide +kernel
theorem dX10_cut_57 : decode cX10_cut 57 = .ok (.getfield 9, 3) := by decide +kernel
theorem dX10_cut_60 : decode cX10_cut 60 = .ok (.iload_n 2, 1) := by decide +kernel
theorem dX10_cut_61 : decode cX10_cut 61 = .ok (.iconst 5, 1) := by decide +kernel
theorem dX10_cut_62 : decode cX10_cut 62 = .ok (.iadd, 1) := by decide +kernel
theorem dX10_cut_63 : decode cX10_cut 63 = .ok (.iaload, 1) := by decide +kernel
theorem dX10_cut_64 : decode cX10_cut 64 = .ok (.iastore, 1) := by decide +kernel
theorem dX10_cut_65 : decode cX10_cut 65 = .ok (.iinc 2 1, 3) := by decide +kernel
theorem dX10_cut_68 : decode cX10_cut 68 = .ok (.goto (-32), 3) := by decide +kernel
theorem dX10_cut_71 : decode cX10_cut 71 = .ok (.aload_n 0, 1) := by decide +kernel
theorem dX10_cut_72 : decode cX10_cut 72 = .ok (.getfield 9, 3) := by decide +kernel
theorem dX10_cut_75 : decode cX10_cut 75 = .ok (.iconst 1, 1) := by decide +kernel
theorem dX10_cut_76 : decode cX10_cut 76 = .ok (.dup2, 1) := by decide +kernel
theorem dX10_cut_77 : decode cX10_cut 77 = .ok (.iaload, 1) := by decide +kernel
theorem dX10_cut_78 : decode cX10_cut 78 = .ok (.iconst 1, 1) := by decide +kernel
theorem dX10_cut_79 : decode cX10_cut 79 = .ok (.isub, 1) := by decide +kernel
theorem dX10_cut_80 : decode cX10_cut 80 = .ok (.iastore, 1) := by decide +kernel
theorem dX10_cut_81 : decode cX10_cut 81 = .ok (.aload_n 0, 1) := by decide +kernel
theorem dX10_cut_82 : decode cX10_cut 82 = .ok (.invokevirtual 95, 3) := by decide +kernel
theorem dX10_cut_85 : decode cX10_cut 85 = .ok (.ireturn, 1) := by decide +kernel
theorem dX10_isRule_0 : decode cX10_isRule 0 = .ok (.iload_n 0, 1) := by decide +kernel
theorem dX10_isRule_1 : decode cX10_isRule 1 = .ok (.ifCond .ne 13, 3) := by decide +kernel
theorem dX10_isRule_4 : decode cX10_isRule 4 = .ok (.iload_n 1, 1) := by decide +kernel
theorem dX10_isRule_5 : decode cX10_isRule 5 = .ok (.iconst 1, 1) := by decide +kernel
theorem dX10_isRule_6 : decode cX10_isRule 6 = .ok (.bipush 100, 2) := by decide +kernel
theorem dX10_isRule_8 : decode cX10_isRule 8 = .ok (.invokestatic 58, 3) := by decide +kernel
theorem dX10_isRule_11 : decode cX10_isRule 11 = .ok (.goto 18, 3) := by decide +kernel
theorem dX10_isRule_14 : decode cX10_isRule 14 = .ok (.iload_n 1, 1) := by decide +kernel
theorem dX10_isRule_15 : decode cX10_isRule 15 = .ok (.iconst 0, 1) := by decide +kernel
theorem dX10_isRule_16 : decode cX10_isRule 16 = .ok (.iload_n 0, 1) := by decide +kernel
theorem dX10_isRule_17 : decode cX10_isRule 17 = .ok (.iconst 1, 1) := by decide +kernel
theorem dX10_isRule_18 : decode cX10_isRule 18 = .ok (.if_icmp .ne 7, 3) := by decide +kernel
theorem dX10_isRule_21 : decode cX10_isRule 21 = .ok (.iconst 2, 1) := by decide +kernel
theorem dX10_isRule_22 : decode cX10_isRule 22 = .ok (.goto 4, 3) := by decide +kernel
theorem dX10_isRule_25 : decode cX10_isRule 25 = .ok (.iconst 1, 1) := by decide +kernel
theorem dX10_isRule_26 : decode cX10_isRule 26 = .ok (.invokestatic 58, 3) := by decide +kernel
theorem dX10_isRule_29 : decode cX10_isRule 29 = .ok (.ireturn, 1) := by decide +kernel
theorem dX10_rule_0 : decode cX10_rule 0 = .ok (.aload_n 0, 1) := by decide +kernel
theorem dX10_rule_1 : decode cX10_rule 1 = .ok (.iload_n 1, 1) := by decide +kernel
theorem dX10_rule_2 : decode cX10_rule 2 = .ok (.iconst 0, 1) := by decide +kernel
theorem dX10_rule_3 : decode cX10_rule 3 = .ok (.iconst 2, 1) := by decide +kernel
theorem dX10_rule_4 : decode cX10_rule 4 = .ok (.invokestatic 58, 3) := by decide +kernel
theorem dX10_rule_7 : decode cX10_rule 7 = .ok (.ifCond .ne 7, 3) := by decide +kernel
theorem dX10_rule_10 : decode cX10_rule 10 = .ok (.iconst 1, 1) := by decide +kernel
theorem dX10_rule_11 : decode cX10_rule 11 = .ok (.goto 16, 3) := by decide +kernel
theorem dX10_rule_14 : decode cX10_rule 14 = .ok (.iload_n 1, 1) := by decide +kernel
theorem dX10_rule_15 : decode cX10_rule 15 = .ok (.iload_n 2, 1) := by decide +kernel
theorem dX10_rule_16 : decode cX10_rule 16 = .ok (.invokestatic 237, 3) := by decide +kernel
theorem dX10_rule_19 : decode cX10_rule 19 = .ok (.ifCond .ne 7, 3) := by decide +kernel
theorem dX10_rule_22 : decode cX10_rule 22 = .ok (.iconst 2, 1) := by decide +kernel
theorem dX10_rule_23 : decode cX10_rule 23 = .ok (.goto 4, 3) := by decide +kernel
theorem dX10_rule_26 : decode cX10_rule 26 = .ok (.iconst 0, 1) := by decide +kernel
theorem dX10_rule_27 : decode cX10_rule 27 = .ok (.putfield 51, 3) := by decide +kernel
theorem dX10_rule_30 : decode cX10_rule 30 = .ok (.aload_n 0, 1) := by decide +kernel
theorem dX10_rule_31 : decode cX10_rule 31 = .ok (.getfield 51, 3) := by decide +kernel
theorem dX10_rule_34 : decode cX10_rule 34 = .ok (.ifCond .le 5, 3) := by decide +kernel
theorem dX10_rule_37 : decode cX10_rule 37 = .ok (.iconst 0, 1) := by decide +kernel
theorem dX10_rule_38 : decode cX10_rule 38 = .ok (.ireturn, 1) := by decide +kernel
theorem dX10_rule_39 : decode cX10_rule 39 = .ok (.aload_n 0, 1) := by decide +kernel
theorem dX10_rule_40 : decode cX10_rule 40 = .ok (.invokevirtual 226, 3) := by decide +kernel
theorem dX10_rule_43 : decode cX10_rule 43 = .ok (.aload_n 0, 1) := by decide +kernel
theorem dX10_rule_44 : decode cX10_rule 44 = .ok (.getfield 9, 3) := by decide +kernel
theorem dX10_rule_47 : decode cX10_rule 47 = .ok (.iconst 3, 1) := by decide +kernel
theorem dX10_rule_48 : decode cX10_rule 48 = .ok (.iload_n 1, 1) := by decide +kernel
theorem dX10_rule_49 : decode cX10_rule 49 = .ok (.iadd, 1) := by decide +kernel
theorem dX10_rule_50 : decode cX10_rule 50 = .ok (.iaload, 1) := by decide +kernel
theorem dX10_rule_51 : decode cX10_rule 51 = .ok (.istore_n 3, 1) := by decide +kernel
theorem dX10_rule_52 : decode cX10_rule 52 = .ok (.aload_n 0, 1) := by decide +kernel
theorem dX10_rule_53 : decode cX10_rule 53 = .ok (.getfield 9, 3) := by decide +kernel
theorem dX10_rule_56 : decode cX10_rule 56 = .ok (.iconst 3, 1) := by decide +kernel
theorem dX10_rule_57 : decode cX10_rule 57 = .ok (.iload_n 1, 1) := by decide +kernel
theorem dX10_rule_58 : decode cX10_rule 58 = .ok (.iadd, 1) := by decide +kernel
theorem dX10_rule_59 : decode cX10_rule 59 = .ok (.iload_n 2, 1) := by decide +kernel
theorem dX10_rule_60 : decode cX10_rule 60 = .ok (.iastore, 1) := by decide +kernel
theorem dX10_rule_61 : decode cX10_rule 61 = .ok (.iload_n 3, 1) := by decide +kernel
theorem dX10_rule_62 : decode cX10_rule 62 = .ok (.ireturn, 1) := by decide +kernel
theorem dX10_undo_0 : decode cX10_undo 0 = .ok (.aload_n 0, 1) := by decide +kernel
theorem dX10_undo_1 : decode cX10_undo 1 = .ok (.iconst 0, 1) := by decide +kernel
theorem dX10_undo_2 : decode cX10_undo 2 = .ok (.putfield 51, 3) := by decide +kernel
theorem dX10_undo_5 : decode cX10_undo 5 = .ok (.aload_n 0, 1) := by decide +kernel
theorem dX10_undo_6 : decode cX10_undo 6 = .ok (.getfield 162, 3) := by decide +kernel
theorem dX10_undo_9 : decode cX10_undo 9 = .ok (.ifCond .ne 5, 3) := by decide +kernel
theorem dX10_undo_12 : decode cX10_undo 12 = .ok (.iconst (-1), 1) := by decide +kernel
theorem dX10_undo_13 : decode cX10_undo 13 = .ok (.ireturn, 1) := by decide +kernel
theorem dX10_undo_14 : decode cX10_undo 14 = .ok (.aload_n 0, 1) := by decide +kernel
theorem dX10_undo_15 : decode cX10_undo 15 = .ok (.dup, 1) := by decide +kernel
theorem dX10_undo_16 : decode cX10_undo 16 = .ok (.getfield 162, 3) := by decide +kernel
theorem dX10_undo_19 : decode cX10_undo 19 = .ok (.iconst 1, 1) := by decide +kernel
theorem dX10_undo_20 : decode cX10_undo 20 = .ok (.isub, 1) := by decide +kernel
theorem dX10_undo_21 : decode cX10_undo 21 = .ok (.putfield 162, 3) := by decide +kernel
theorem dX10_undo_24 : decode cX10_undo 24 = .ok (.iconst 0, 1) := by decide +kernel
theorem dX10_undo_25 : decode cX10_undo 25 = .ok (.istore_n 1, 1) := by decide +kernel
theorem dX10_undo_26 : decode cX10_undo 26 = .ok (.iload_n 1, 1) := by decide +kernel
theorem dX10_undo_27 : decode cX10_undo 27 = .ok (.sipush 330, 3) := by decide +kernel
theorem dX10_undo_30 : decode cX10_undo 30 = .ok (.if_icmp .ge 30, 3) := by decide +kernel
theorem dX10_undo_33 : decode cX10_undo 33 = .ok (.aload_n 0, 1) := by decide +kernel
theorem dX10_undo_34 : decode cX10_undo 34 = .ok (.getfield 9, 3) := by decide +kernel
theorem dX10_undo_37 : decode cX10_undo 37 = .ok (.iload_n 1, 1) := by decide +kernel
theorem dX10_undo_38 : decode cX10_undo 38 = .ok (.aload_n 0, 1) := by decide +kernel
theorem dX10_undo_39 : decode cX10_undo 39 = .ok (.getfield 19, 3) := by decide +kernel
theorem dX10_undo_42 : decode cX10_undo 42 = .ok (.sipush 330, 3) := by decide +kernel
theorem dX10_undo_45 : decode cX10_undo 45 = .ok (.aload_n 0, 1) := by decide +kernel
theorem dX10_undo_46 : decode cX10_undo 46 = .ok (.getfield 162, 3) := by decide +kernel
theorem dX10_undo_49 : decode cX10_undo 49 = .ok (.imul, 1) := by decide +kernel
theorem dX10_undo_50 : decode cX10_undo 50 = .ok (.iload_n 1, 1) := by decide +kernel
theorem dX10_undo_51 : decode cX10_undo 51 = .ok (.iadd, 1) := by decide +kernel
theorem dX10_undo_52 : decode cX10_undo 52 = .ok (.iaload, 1) := by decide +kernel
theorem dX10_undo_53 : decode cX10_undo 53 = .ok (.iastore, 1) := by decide +kernel
theorem dX10_undo_54 : decode cX10_undo 54 = .ok (.iinc 1 1, 3) := by decide +kernel
theorem dX10_undo_57 : decode cX10_undo 57 = .ok (.goto (-31), 3) := by decide +kernel
theorem dX10_undo_60 : decode cX10_undo 60 = .ok (.aload_n 0, 1) := by decide +kernel
theorem dX10_undo_61 : decode cX10_undo 61 = .ok (.getfield 162, 3) := by decide +kernel
theorem dX10_undo_64 : decode cX10_undo 64 = .ok (.ireturn, 1) := by decide +kernel
theorem dX10_image_0 : decode cX10_image 0 = .ok (.aload_n 0, 1) := by decide +kernel
theorem dX10_image_1 : decode cX10_image 1 = .ok (.iconst 0, 1) := by decide +kernel
theorem dX10_image_2 : decode cX10_image 2 = .ok (.putfield 51, 3) := by decide +kernel
theorem dX10_image_5 : decode cX10_image 5 = .ok (.aload_n 0, 1) := by decide +kernel
theorem dX10_image_6 : decode cX10_image 6 = .ok (.getfield 16, 3) := by decide +kernel
theorem dX10_image_9 : decode cX10_image 9 = .ok (.aload_n 0, 1) := by decide +kernel
theorem dX10_image_10 : decode cX10_image 10 = .ok (.getfield 9, 3) := by decide +kernel
theorem dX10_image_13 : decode cX10_image 13 = .ok (.invokestatic 240, 3) := by decide +kernel
theorem dX10_image_16 : decode cX10_image 16 = .ok (.aload_n 0, 1) := by decide +kernel
theorem dX10_image_17 : decode cX10_image 17 = .ok (.iconst 1, 1) := by decide +kernel
theorem dX10_image_18 : decode cX10_image 18 = .ok (.putfield 244, 3) := by decide +kernel
theorem dX10_image_21 : decode cX10_image 21 = .ok (.return_, 1) := by decide +kernel
theorem dX10_back_0 : decode cX10_back 0 = .ok (.aload_n 0, 1) := by decide +kernel
theorem dX10_back_1 : decode cX10_back 1 = .ok (.iconst 0, 1) := by decide +kernel
theorem dX10_back_2 : decode cX10_back 2 = .ok (.putfield 51, 3) := by decide +kernel
theorem dX10_back_5 : decode cX10_back 5 = .ok (.aload_n 0, 1) := by decide +kernel
theorem dX10_back_6 : decode cX10_back 6 = .ok (.getfield 244, 3) := by decide +kernel
theorem dX10_back_9 : decode cX10_back 9 = .ok (.ifCond .ne 5, 3) := by decide +kernel
theorem dX10_back_12 : decode cX10_back 12 = .ok (.iconst 0, 1) := by decide +kernel
theorem dX10_back_13 : decode cX10_back 13 = .ok (.ireturn, 1) := by decide +kernel
theorem dX10_back_14 : decode cX10_back 14 = .ok (.aload_n 0, 1) := by decide +kernel
theorem dX10_back_15 : decode cX10_back 15 = .ok (.getfield 9, 3) := by decide +kernel
theorem dX10_back_18 : decode cX10_back 18 = .ok (.aload_n 0, 1) := by decide +kernel
theorem dX10_back_19 : decode cX10_back 19 = .ok (.getfield 16, 3) := by decide +kernel
theorem dX10_back_22 : decode cX10_back 22 = .ok (.invokestatic 240, 3) := by decide +kernel
theorem dX10_back_25 : decode cX10_back 25 = .ok (.aload_n 0, 1) := by decide +kernel
theorem dX10_back_26 : decode cX10_back 26 = .ok (.iconst 0, 1) := by decide +kernel
theorem dX10_back_27 : decode cX10_back 27 = .ok (.putfield 162, 3) := by decide +kernel
theorem dX10_back_30 : decode cX10_back 30 = .ok (.iconst 1, 1) := by decide +kernel
theorem dX10_back_31 : decode cX10_back 31 = .ok (.ireturn, 1) := by decide +kernel
theorem dX10_feed_0 : decode cX10_feed 0 = .ok (.aload_n 0, 1) := by decide +kernel
theorem dX10_feed_1 : decode cX10_feed 1 = .ok (.iconst 0, 1) := by decide +kernel
theorem dX10_feed_2 : decode cX10_feed 2 = .ok (.putfield 51, 3) := by decide +kernel
theorem dX10_feed_5 : decode cX10_feed 5 = .ok (.aload_n 0, 1) := by decide +kernel
theorem dX10_feed_6 : decode cX10_feed 6 = .ok (.getfield 165, 3) := by decide +kernel
theorem dX10_feed_9 : decode cX10_feed 9 = .ok (.bipush 20, 2) := by decide +kernel
theorem dX10_feed_11 : decode cX10_feed 11 = .ok (.iadd, 1) := by decide +kernel
theorem dX10_feed_12 : decode cX10_feed 12 = .ok (.sipush 600, 3) := by decide +kernel
theorem dX10_feed_15 : decode cX10_feed 15 = .ok (.if_icmp .le 5, 3) := by decide +kernel
theorem dX10_feed_18 : decode cX10_feed 18 = .ok (.iconst (-1), 1) := by decide +kernel
theorem dX10_feed_19 : decode cX10_feed 19 = .ok (.ireturn, 1) := by decide +kernel
theorem dX10_feed_20 : decode cX10_feed 20 = .ok (.iconst 0, 1) := by decide +kernel
theorem dX10_feed_21 : decode cX10_feed 21 = .ok (.istore 6, 2) := by decide +kernel
theorem dX10_feed_23 : decode cX10_feed 23 = .ok (.iload 6, 2) := by decide +kernel
theorem dX10_feed_25 : decode cX10_feed 25 = .ok (.bipush 20, 2) := by decide +kernel
theorem dX10_feed_27 : decode cX10_feed 27 = .ok (.if_icmp .ge 93, 3) := by decide +kernel
theorem dX10_feed_30 : decode cX10_feed 30 = .ok (.iload 6, 2) := by decide +kernel
theorem dX10_feed_32 : decode cX10_feed 32 = .ok (.iconst 4, 1) := by decide +kernel
theorem dX10_feed_33 : decode cX10_feed 33 = .ok (.if_icmp .ge 7, 3) := by decide +kernel
theorem dX10_feed_36 : decode cX10_feed 36 = .ok (.iload_n 1, 1) := by decide +kernel
theorem dX10_feed_37 : decode cX10_feed 37 = .ok (.goto 39, 3) := by decide +kernel
theorem dX10_feed_40 : decode cX10_feed 40 = .ok (.iload 6, 2) := by decide +kernel
theorem dX10_feed_42 : decode cX10_feed 42 = .ok (.bipush 8, 2) := by decide +kernel
theorem dX10_feed_44 : decode cX10_feed 44 = .ok (.if_icmp .ge 7, 3) := by decide +kernel
theorem dX10_feed_47 : decode cX10_feed 47 = .ok (.iload_n 2, 1) := by decide +kernel
theorem dX10_feed_48 : decode cX10_feed 48 = .ok (.goto 28, 3) := by decide +kernel
theorem dX10_feed_51 : decode cX10_feed 51 = .ok (.iload 6, 2) := by decide +kernel
theorem dX10_feed_53 : decode cX10_feed 53 = .ok (.bipush 12, 2) := by decide +kernel
theorem dX10_feed_55 : decode cX10_feed 55 = .ok (.if_icmp .ge 7, 3) := by decide +kernel
theorem dX10_feed_58 : decode cX10_feed 58 = .ok (.iload_n 3, 1) := by decide +kernel
theorem dX10_feed_59 : decode cX10_feed 59 = .ok (.goto 17, 3) := by decide +kernel
theorem dX10_feed_62 : decode cX10_feed 62 = .ok (.iload 6, 2) := by decide +kernel
theorem dX10_feed_64 : decode cX10_feed 64 = .ok (.bipush 16, 2) := by decide +kernel
theorem dX10_feed_66 : decode cX10_feed 66 = .ok (.if_icmp .ge 8, 3) := by decide +kernel
theorem dX10_feed_69 : decode cX10_feed 69 = .ok (.iload 4, 2) := by decide +kernel
theorem dX10_feed_71 : decode cX10_feed 71 = .ok (.goto 5, 3) := by decide +kernel
theorem dX10_feed_74 : decode cX10_feed 74 = .ok (.iload 5, 2) := by decide +kernel
theorem dX10_feed_76 : decode cX10_feed 76 = .ok (.istore 7, 2) := by decide +kernel
theorem dX10_feed_78 : decode cX10_feed 78 = .ok (.aload_n 0, 1) := by decide +kernel
theorem dX10_feed_79 : decode cX10_feed 79 = .ok (.getfield 40, 3) := by decide +kernel
theorem dX10_feed_82 : decode cX10_feed 82 = .ok (.aload_n 0, 1) := by decide +kernel
theorem dX10_feed_83 : decode cX10_feed 83 = .ok (.getfield 165, 3) := by decide +kernel
theorem dX10_feed_86 : decode cX10_feed 86 = .ok (.iload 7, 2) := by decide +kernel
theorem dX10_feed_88 : decode cX10_feed 88 = .ok (.bipush 24, 2) := by decide +kernel
theorem dX10_feed_90 : decode cX10_feed 90 = .ok (.bipush 8, 2) := by decide +kernel
theorem dX10_feed_92 : decode cX10_feed 92 = .ok (.iload 6, 2) := by decide +kernel
theorem dX10_feed_94 : decode cX10_feed 94 = .ok (.iconst 4, 1) := by decide +kernel
theorem dX10_feed_95 : decode cX10_feed 95 = .ok (.irem, 1) := by decide +kernel
theorem dX10_feed_96 : decode cX10_feed 96 = .ok (.imul, 1) := by decide +kernel
theorem dX10_feed_97 : decode cX10_feed 97 = .ok (.isub, 1) := by decide +kernel
theorem dX10_feed_98 : decode cX10_feed 98 = .ok (.ishr, 1) := by decide +kernel
theorem dX10_feed_99 : decode cX10_feed 99 = .ok (.sipush 255, 3) := by decide +kernel
theorem dX10_feed_102 : decode cX10_feed 102 = .ok (.iand, 1) := by decide +kernel
theorem dX10_feed_103 : decode cX10_feed 103 = .ok (.iastore, 1) := by decide +kernel
theorem dX10_feed_104 : decode cX10_feed 104 = .ok (.aload_n 0, 1) := by decide +kernel
theorem dX10_feed_105 : decode cX10_feed 105 = .ok (.dup, 1) := by decide +kernel
theorem dX10_feed_106 : decode cX10_feed 106 = .ok (.getfield 165, 3) := by decide +kernel
theorem dX10_feed_109 : decode cX10_feed 109 = .ok (.iconst 1, 1) := by decide +kernel
theorem dX10_feed_110 : decode cX10_feed 110 = .ok (.iadd, 1) := by decide +kernel
theorem dX10_feed_111 : decode cX10_feed 111 = .ok (.putfield 165, 3) := by decide +kernel
theorem dX10_feed_114 : decode cX10_feed 114 = .ok (.iinc 6 1, 3) := by decide +kernel
theorem dX10_feed_117 : decode cX10_feed 117 = .ok (.goto (-94), 3) := by decide +kernel
theorem dX10_feed_120 : decode cX10_feed 120 = .ok (.aload_n 0, 1) := by decide +kernel
theorem dX10_feed_121 : decode cX10_feed 121 = .ok (.getfield 165, 3) := by decide +kernel
theorem dX10_feed_124 : decode cX10_feed 124 = .ok (.ireturn, 1) := by decide +kernel
theorem dX10_fault_0 : decode cX10_fault 0 = .ok (.aload_n 0, 1) := by decide +kernel
theorem dX10_fault_1 : decode cX10_fault 1 = .ok (.iconst 0, 1) := by decide +kernel
theorem dX10_fault_2 : decode cX10_fault 2 = .ok (.putfield 51, 3) := by decide +kernel
theorem dX10_fault_5 : decode cX10_fault 5 = .ok (.aload_n 0, 1) := by decide +kernel
theorem dX10_fault_6 : decode cX10_fault 6 = .ok (.getfield 43, 3) := by decide +kernel
theorem dX10_fault_9 : decode cX10_fault 9 = .ok (.ireturn, 1) := by decide +kernel
theorem dX10_byteAt_0 : decode cX10_byteAt 0 = .ok (.iload_n 1, 1) := by decide +kernel
theorem dX10_byteAt_1 : decode cX10_byteAt 1 = .ok (.aload_n 0, 1) := by decide +kernel
theorem dX10_byteAt_2 : decode cX10_byteAt 2 = .ok (.getfield 248, 3) := by decide +kernel
theorem dX10_byteAt_5 : decode cX10_byteAt 5 = .ok (.if_icmp .ge 12, 3) := by decide +kernel
theorem dX10_byteAt_8 : decode cX10_byteAt 8 = .ok (.aload_n 0, 1) := by decide +kernel
theorem dX10_byteAt_9 : decode cX10_byteAt 9 = .ok (.getfield 40, 3) := by decide +kernel
theorem dX10_byteAt_12 : decode cX10_byteAt 12 = .ok (.iload_n 1, 1) := by decide +kernel
theorem dX10_byteAt_13 : decode cX10_byteAt 13 = .ok (.iaload, 1) := by decide +kernel
theorem dX10_byteAt_14 : decode cX10_byteAt 14 = .ok (.goto 4, 3) := by decide +kernel
theorem dX10_byteAt_17 : decode cX10_byteAt 17 = .ok (.iconst (-1), 1) := by decide +kernel
theorem dX10_byteAt_18 : decode cX10_byteAt 18 = .ok (.ireturn, 1) := by decide +kernel
theorem dX10_isSmall_0 : decode cX10_isSmall 0 = .ok (.iload_n 0, 1) := by decide +kernel
theorem dX10_isSmall_1 : decode cX10_isSmall 1 = .ok (.bipush 97, 2) := by decide +kernel
theorem dX10_isSmall_3 : decode cX10_isSmall 3 = .ok (.if_icmp .lt 13, 3) := by decide +kernel
theorem dX10_isSmall_6 : decode cX10_isSmall 6 = .ok (.iload_n 0, 1) := by decide +kernel
theorem dX10_isSmall_7 : decode cX10_isSmall 7 = .ok (.bipush 122, 2) := by decide +kernel
theorem dX10_isSmall_9 : decode cX10_isSmall 9 = .ok (.if_icmp .gt 7, 3) := by decide +kernel
theorem dX10_isSmall_12 : decode cX10_isSmall 12 = .ok (.iconst 1, 1) := by decide +kernel
theorem dX10_isSmall_13 : decode cX10_isSmall 13 = .ok (.goto 4, 3) := by decide +kernel
theorem dX10_isSmall_16 : decode cX10_isSmall 16 = .ok (.iconst 0, 1) := by decide +kernel
theorem dX10_isSmall_17 : decode cX10_isSmall 17 = .ok (.ireturn, 1) := by decide +kernel
theorem dX10_isFigure_0 : decode cX10_isFigure 0 = .ok (.iload_n 0, 1) := by decide +kernel
theorem dX10_isFigure_1 : decode cX10_isFigure 1 = .ok (.bipush 48, 2) := by decide +kernel
theorem dX10_isFigure_3 : decode cX10_isFigure 3 = .ok (.if_icmp .lt 13, 3) := by decide +kernel
theorem dX10_isFigure_6 : decode cX10_isFigure 6 = .ok (.iload_n 0, 1) := by decide +kernel
theorem dX10_isFigure_7 : decode cX10_isFigure 7 = .ok (.bipush 57, 2) := by decide +kernel
theorem dX10_isFigure_9 : decode cX10_isFigure 9 = .ok (.if_icmp .gt 7, 3) := by decide +kernel
theorem dX10_isFigure_12 : decode cX10_isFigure 12 = .ok (.iconst 1, 1) := by decide +kernel
theorem dX10_isFigure_13 : decode cX10_isFigure 13 = .ok (.goto 4, 3) := by decide +kernel
theorem dX10_isFigure_16 : decode cX10_isFigure 16 = .ok (.iconst 0, 1) := by decide +kernel
theorem dX10_isFigure_17 : decode cX10_isFigure 17 = .ok (.ireturn, 1) := by decide +kernel
theorem dX10_step_0 : decode cX10_step 0 = .ok (.aload_n 0, 1) := by decide +kernel
theorem dX10_step_1 : decode cX10_step 1 = .ok (.aload_n 0, 1) := by decide +kernel
theorem dX10_step_2 : decode cX10_step 2 = .ok (.getfield 251, 3) := by decide +kernel
theorem dX10_step_5 : decode cX10_step 5 = .ok (.invokevirtual 254, 3) := by decide +kernel
theorem dX10_step_8 : decode cX10_step 8 = .ok (.bipush 32, 2) := by decide +kernel
theorem dX10_step_10 : decode cX10_step 10 = .ok (.if_icmp .eq 16, 3) := by decide +kernel
theorem dX10_step_13 : decode cX10_step 13 = .ok (.aload_n 0, 1) := by decide +kernel
theorem dX10_step_14 : decode cX10_step 14 = .ok (.aload_n 0, 1) := by decide +kernel
theorem dX10_step_15 : decode cX10_step 15 = .ok (.getfield 251, 3) := by decide +kernel
theorem dX10_step_18 : decode cX10_step 18 = .ok (.invokevirtual 254, 3) := by decide +kernel
theorem dX10_step_21 : decode cX10_step 21 = .ok (.bipush 10, 2) := by decide +kernel
theorem dX10_step_23 : decode cX10_step 23 = .ok (.if_icmp .ne 16, 3) := by decide +kernel
theorem dX10_step_26 : decode cX10_step 26 = .ok (.aload_n 0, 1) := by decide +kernel
theorem dX10_step_27 : decode cX10_step 27 = .ok (.dup, 1) := by decide +kernel
theorem dX10_step_28 : decode cX10_step 28 = .ok (.getfield 251, 3) := by decide +kernel
theorem dX10_step_31 : decode cX10_step 31 = .ok (.iconst 1, 1) := by decide +kernel
theorem dX10_step_32 : decode cX10_step 32 = .ok (.iadd, 1) := by decide +kernel
theorem dX10_step_33 : decode cX10_step 33 = .ok (.putfield 251, 3) := by decide +kernel
theorem dX10_step_36 : decode cX10_step 36 = .ok (.goto (-36), 3) := by decide +kernel
theorem dX10_step_39 : decode cX10_step 39 = .ok (.aload_n 0, 1) := by decide +kernel
theorem dX10_step_40 : decode cX10_step 40 = .ok (.aload_n 0, 1) := by decide +kernel
theorem dX10_step_41 : decode cX10_step 41 = .ok (.getfield 251, 3) := by decide +kernel
theorem dX10_step_44 : decode cX10_step 44 = .ok (.putfield 257, 3) := by decide +kernel
theorem dX10_step_47 : decode cX10_step 47 = .ok (.aload_n 0, 1) := by decide +kernel
theorem dX10_step_48 : decode cX10_step 48 = .ok (.aload_n 0, 1) := by decide +kernel
theorem dX10_step_49 : decode cX10_step 49 = .ok (.getfield 251, 3) := by decide +kernel
theorem dX10_step_52 : decode cX10_step 52 = .ok (.invokevirtual 254, 3) := by decide +kernel
theorem dX10_step_55 : decode cX10_step 55 = .ok (.istore_n 1, 1) := by decide +kernel
theorem dX10_step_56 : decode cX10_step 56 = .ok (.iload_n 1, 1) := by decide +kernel
theorem dX10_step_57 : decode cX10_step 57 = .ok (.iconst (-1), 1) := by decide +kernel
theorem dX10_step_58 : decode cX10_step 58 = .ok (.if_icmp .ne 11, 3) := by decide +kernel
theorem dX10_step_61 : decode cX10_step 61 = .ok (.aload_n 0, 1) := by decide +kernel
theorem dX10_step_62 : decode cX10_step 62 = .ok (.iconst 0, 1) := by decide +kernel
theorem dX10_step_63 : decode cX10_step 63 = .ok (.putfield 260, 3) := by decide +kernel
theorem dX10_step_66 : decode cX10_step 66 = .ok (.goto 102, 3) := by decide +kernel
theorem dX10_step_69 : decode cX10_step 69 = .ok (.iload_n 1, 1) := by decide +kernel
theorem dX10_step_70 : decode cX10_step 70 = .ok (.invokestatic 263, 3) := by decide +kernel
theorem dX10_step_73 : decode cX10_step 73 = .ok (.ifCond .eq 38, 3) := by decide +kernel
theorem dX10_step_76 : decode cX10_step 76 = .ok (.aload_n 0, 1) := by decide +kernel
theorem dX10_step_77 : decode cX10_step 77 = .ok (.aload_n 0, 1) := by decide +kernel
theorem dX10_step_78 : decode cX10_step 78 = .ok (.getfield 251, 3) := by decide +kernel
theorem dX10_step_81 : decode cX10_step 81 = .ok (.invokevirtual 254, 3) := by decide +kernel
theorem dX10_step_84 : decode cX10_step 84 = .ok (.invokestatic 263, 3) := by decide +kernel
theorem dX10_step_87 : decode cX10_step 87 = .ok (.ifCond .eq 16, 3) := by decide +kernel
theorem dX10_step_90 : decode cX10_step 90 = .ok (.aload_n 0, 1) := by decide +kernel
theorem dX10_step_91 : decode cX10_step 91 = .ok (.dup, 1) := by decide +kernel
theorem dX10_step_92 : decode cX10_step 92 = .ok (.getfield 251, 3) := by decide +kernel
theorem dX10_step_95 : decode cX10_step 95 = .ok (.iconst 1, 1) := by decide +kernel
theorem dX10_step_96 : decode cX10_step 96 = .ok (.iadd, 1) := by decide +kernel
theorem dX10_step_97 : decode cX10_step 97 = .ok (.putfield 251, 3) := by decide +kernel
theorem dX10_step_100 : decode cX10_step 100 = .ok (.goto (-24), 3) := by decide +kernel
theorem dX10_step_103 : decode cX10_step 103 = .ok (.aload_n 0, 1) := by decide +kernel
theorem dX10_step_104 : decode cX10_step 104 = .ok (.iconst 1, 1) := by decide +kernel
theorem dX10_step_105 : decode cX10_step 105 = .ok (.putfield 260, 3) := by decide +kernel
theorem dX10_step_108 : decode cX10_step 108 = .ok (.goto 60, 3) := by decide +kernel
theorem dX10_step_111 : decode cX10_step 111 = .ok (.iload_n 1, 1) := by decide +kernel
theorem dX10_step_112 : decode cX10_step 112 = .ok (.invokestatic 266, 3) := by decide +kernel
theorem dX10_step_115 : decode cX10_step 115 = .ok (.ifCond .eq 38, 3) := by decide +kernel
theorem dX10_step_118 : decode cX10_step 118 = .ok (.aload_n 0, 1) := by decide +kernel
theorem dX10_step_119 : decode cX10_step 119 = .ok (.aload_n 0, 1) := by decide +kernel
theorem dX10_step_120 : decode cX10_step 120 = .ok (.getfield 251, 3) := by decide +kernel
theorem dX10_step_123 : decode cX10_step 123 = .ok (.invokevirtual 254, 3) := by decide +kernel
theorem dX10_step_126 : decode cX10_step 126 = .ok (.invokestatic 266, 3) := by decide +kernel
theorem dX10_step_129 : decode cX10_step 129 = .ok (.ifCond .eq 16, 3) := by decide +kernel
theorem dX10_step_132 : decode cX10_step 132 = .ok (.aload_n 0, 1) := by decide +kernel
theorem dX10_step_133 : decode cX10_step 133 = .ok (.dup, 1) := by decide +kernel
theorem dX10_step_134 : decode cX10_step 134 = .ok (.getfield 251, 3) := by decide +kernel
theorem dX10_step_137 : decode cX10_step 137 = .ok (.iconst 1, 1) := by decide +kernel
theorem dX10_step_138 : decode cX10_step 138 = .ok (.iadd, 1) := by decide +kernel
theorem dX10_step_139 : decode cX10_step 139 = .ok (.putfield 251, 3) := by decide +kernel
theorem dX10_step_142 : decode cX10_step 142 = .ok (.goto (-24), 3) := by decide +kernel
theorem dX10_step_145 : decode cX10_step 145 = .ok (.aload_n 0, 1) := by decide +kernel
theorem dX10_step_146 : decode cX10_step 146 = .ok (.iconst 2, 1) := by decide +kernel
theorem dX10_step_147 : decode cX10_step 147 = .ok (.putfield 260, 3) := by decide +kernel
theorem dX10_step_150 : decode cX10_step 150 = .ok (.goto 18, 3) := by decide +kernel
theorem dX10_step_153 : decode cX10_step 153 = .ok (.aload_n 0, 1) := by decide +kernel
theorem dX10_step_154 : decode cX10_step 154 = .ok (.dup, 1) := by decide +kernel
theorem dX10_step_155 : decode cX10_step 155 = .ok (.getfield 251, 3) := by decide +kernel
theorem dX10_step_158 : decode cX10_step 158 = .ok (.iconst 1, 1) := by decide +kernel
theorem dX10_step_159 : decode cX10_step 159 = .ok (.iadd, 1) := by decide +kernel
theorem dX10_step_160 : decode cX10_step 160 = .ok (.putfield 251, 3) := by decide +kernel
theorem dX10_step_163 : decode cX10_step 163 = .ok (.aload_n 0, 1) := by decide +kernel
theorem dX10_step_164 : decode cX10_step 164 = .ok (.iconst 3, 1) := by decide +kernel
theorem dX10_step_165 : decode cX10_step 165 = .ok (.putfield 260, 3) := by decide +kernel
theorem dX10_step_168 : decode cX10_step 168 = .ok (.aload_n 0, 1) := by decide +kernel
theorem dX10_step_169 : decode cX10_step 169 = .ok (.aload_n 0, 1) := by decide +kernel
theorem dX10_step_170 : decode cX10_step 170 = .ok (.getfield 251, 3) := by decide +kernel
theorem dX10_step_173 : decode cX10_step 173 = .ok (.putfield 269, 3) := by decide +kernel
theorem dX10_step_176 : decode cX10_step 176 = .ok (.return_, 1) := by decide +kernel
theorem dX10_opens_0 : decode cX10_opens 0 = .ok (.aload_n 0, 1) := by decide +kernel
theorem dX10_opens_1 : decode cX10_opens 1 = .ok (.iload_n 1, 1) := by decide +kernel
theorem dX10_opens_2 : decode cX10_opens 2 = .ok (.putfield 248, 3) := by decide +kernel
theorem dX10_opens_5 : decode cX10_opens 5 = .ok (.aload_n 0, 1) := by decide +kernel
theorem dX10_opens_6 : decode cX10_opens 6 = .ok (.iconst 0, 1) := by decide +kernel
theorem dX10_opens_7 : decode cX10_opens 7 = .ok (.putfield 251, 3) := by decide +kernel
theorem dX10_opens_10 : decode cX10_opens 10 = .ok (.aload_n 0, 1) := by decide +kernel
theorem dX10_opens_11 : decode cX10_opens 11 = .ok (.iconst 0, 1) := by decide +kernel
theorem dX10_opens_12 : decode cX10_opens 12 = .ok (.putfield 272, 3) := by decide +kernel
theorem dX10_opens_15 : decode cX10_opens 15 = .ok (.aload_n 0, 1) := by decide +kernel
theorem dX10_opens_16 : decode cX10_opens 16 = .ok (.iconst 0, 1) := by decide +kernel
theorem dX10_opens_17 : decode cX10_opens 17 = .ok (.putfield 275, 3) := by decide +kernel
theorem dX10_opens_20 : decode cX10_opens 20 = .ok (.aload_n 0, 1) := by decide +kernel
theorem dX10_opens_21 : decode cX10_opens 21 = .ok (.invokevirtual 278, 3) := by decide +kernel
theorem dX10_opens_24 : decode cX10_opens 24 = .ok (.return_, 1) := by decide +kernel
theorem dX10_wrong_0 : decode cX10_wrong 0 = .ok (.aload_n 0, 1) := by decide +kernel
theorem dX10_wrong_1 : decode cX10_wrong 1 = .ok (.getfield 272, 3) := by decide +kernel
theorem dX10_wrong_4 : decode cX10_wrong 4 = .ok (.ifCond .eq 4, 3) := by decide +kernel
theorem dX10_wrong_7 : decode cX10_wrong 7 = .ok (.return_, 1) := by decide +kernel
theorem dX10_wrong_8 : decode cX10_wrong 8 = .ok (.aload_n 0, 1) := by decide +kernel
theorem dX10_wrong_9 : decode cX10_wrong 9 = .ok (.iload_n 1, 1) := by decide +kernel
theorem dX10_wrong_10 : decode cX10_wrong 10 = .ok (.putfield 272, 3) := by decide +kernel
theorem dX10_wrong_13 : decode cX10_wrong 13 = .ok (.aload_n 0, 1) := by decide +kernel
theorem dX10_wrong_14 : decode cX10_wrong 14 = .ok (.aload_n 0, 1) := by decide +kernel
theorem dX10_wrong_15 : decode cX10_wrong 15 = .ok (.getfield 257, 3) := by decide +kernel
theorem dX10_wrong_18 : decode cX10_wrong 18 = .ok (.putfield 281, 3) := by decide +kernel
theorem dX10_wrong_21 : decode cX10_wrong 21 = .ok (.return_, 1) := by decide +kernel
theorem dX10_pass_0 : decode cX10_pass 0 = .ok (.aload_n 0, 1) := by decide +kernel
theorem dX10_pass_1 : decode cX10_pass 1 = .ok (.getfield 272, 3) := by decide +kernel
theorem dX10_pass_4 : decode cX10_pass 4 = .ok (.ifCond .ne 7, 3) := by decide +kernel
theorem dX10_pass_7 : decode cX10_pass 7 = .ok (.aload_n 0, 1) := by decide +kernel
theorem dX10_pass_8 : decode cX10_pass 8 = .ok (.invokevirtual 278, 3) := by decide +kernel
theorem dX10_pass_11 : decode cX10_pass 11 = .ok (.return_, 1) := by decide +kernel
theorem dX10_isSign_0 : decode cX10_isSign 0 = .ok (.aload_n 0, 1) := by decide +kernel
theorem dX10_isSign_1 : decode cX10_isSign 1 = .ok (.getfield 272, 3) := by decide +kernel
theorem dX10_isSign_4 : decode cX10_isSign 4 = .ok (.ifCond .ne 28, 3) := by decide +kernel
theorem dX10_isSign_7 : decode cX10_isSign 7 = .ok (.aload_n 0, 1) := by decide +kernel
theorem dX10_isSign_8 : decode cX10_isSign 8 = .ok (.getfield 260, 3) := by decide +kernel
theorem dX10_isSign_11 : decode cX10_isSign 11 = .ok (.iconst 3, 1) := by decide +kernel
theorem dX10_isSign_12 : decode cX10_isSign 12 = .ok (.if_icmp .ne 20, 3) := by decide +kernel
theorem dX10_isSign_15 : decode cX10_isSign 15 = .ok (.aload_n 0, 1) := by decide +kernel
theorem dX10_isSign_16 : decode cX10_isSign 16 = .ok (.getfield 40, 3) := by decide +kernel
theorem dX10_isSign_19 : decode cX10_isSign 19 = .ok (.aload_n 0, 1) := by decide +kernel
theorem dX10_isSign_20 : decode cX10_isSign 20 = .ok (.getfield 257, 3) := by decide +kernel
theorem dX10_isSign_23 : decode cX10_isSign 23 = .ok (.iaload, 1) := by decide +kernel
theorem dX10_isSign_24 : decode cX10_isSign 24 = .ok (.iload_n 1, 1) := by decide +kernel
theorem dX10_isSign_25 : decode cX10_isSign 25 = .ok (.if_icmp .ne 7, 3) := by decide +kernel
theorem dX10_isSign_28 : decode cX10_isSign 28 = .ok (.iconst 1, 1) := by decide +kernel
theorem dX10_isSign_29 : decode cX10_isSign 29 = .ok (.goto 4, 3) := by decide +kernel
theorem dX10_isSign_32 : decode cX10_isSign 32 = .ok (.iconst 0, 1) := by decide +kernel
theorem dX10_isSign_33 : decode cX10_isSign 33 = .ok (.ireturn, 1) := by decide +kernel
theorem dX10_isWord_0 : decode cX10_isWord 0 = .ok (.aload_n 0, 1) := by decide +kernel
theorem dX10_isWord_1 : decode cX10_isWord 1 = .ok (.getfield 272, 3) := by decide +kernel
theorem dX10_isWord_4 : decode cX10_isWord 4 = .ok (.ifCond .ne 31, 3) := by decide +kernel
theorem dX10_isWord_7 : decode cX10_isWord 7 = .ok (.aload_n 0, 1) := by decide +kernel
theorem dX10_isWord_8 : decode cX10_isWord 8 = .ok (.getfield 260, 3) := by decide +kernel
theorem dX10_isWord_11 : decode cX10_isWord 11 = .ok (.iconst 1, 1) := by decide +kernel
theorem dX10_isWord_12 : decode cX10_isWord 12 = .ok (.if_icmp .ne 23, 3) := by decide +kernel
theorem dX10_isWord_15 : decode cX10_isWord 15 = .ok (.aload_n 1, 1) := by decide +kernel
theorem dX10_isWord_16 : decode cX10_isWord 16 = .ok (.invokevirtual 284, 3) := by decide +kernel
theorem dX10_isWord_19 : decode cX10_isWord 19 = .ok (.aload_n 0, 1) := by decide +kernel
theorem dX10_isWord_20 : decode cX10_isWord 20 = .ok (.getfield 269, 3) := by decide +kernel
theorem dX10_isWord_23 : decode cX10_isWord 23 = .ok (.aload_n 0, 1) := by decide +kernel
theorem dX10_isWord_24 : decode cX10_isWord 24 = .ok (.getfield 257, 3) := by decide +kernel
theorem dX10_isWord_27 : decode cX10_isWord 27 = .ok (.isub, 1) := by decide +kernel
theorem dX10_isWord_28 : decode cX10_isWord 28 = .ok (.if_icmp .ne 7, 3) := by decide +kernel
theorem dX10_isWord_31 : decode cX10_isWord 31 = .ok (.iconst 1, 1) := by decide +kernel
theorem dX10_isWord_32 : decode cX10_isWord 32 = .ok (.goto 4, 3) := by decide +kernel
theorem dX10_isWord_35 : decode cX10_isWord 35 = .ok (.iconst 0, 1) := by decide +kernel
theorem dX10_isWord_36 : decode cX10_isWord 36 = .ok (.istore_n 2, 1) := by decide +kernel
theorem dX10_isWord_37 : decode cX10_isWord 37 = .ok (.iconst 0, 1) := by decide +kernel
theorem dX10_isWord_38 : decode cX10_isWord 38 = .ok (.istore_n 3, 1) := by decide +kernel
theorem dX10_isWord_39 : decode cX10_isWord 39 = .ok (.iload_n 2, 1) := by decide +kernel
theorem dX10_isWord_40 : decode cX10_isWord 40 = .ok (.ifCond .eq 42, 3) := by decide +kernel
theorem dX10_isWord_43 : decode cX10_isWord 43 = .ok (.iload_n 3, 1) := by decide +kernel
theorem dX10_isWord_44 : decode cX10_isWord 44 = .ok (.aload_n 1, 1) := by decide +kernel
theorem dX10_isWord_45 : decode cX10_isWord 45 = .ok (.invokevirtual 284, 3) := by decide +kernel
theorem dX10_isWord_48 : decode cX10_isWord 48 = .ok (.if_icmp .ge 34, 3) := by decide +kernel
theorem dX10_isWord_51 : decode cX10_isWord 51 = .ok (.aload_n 1, 1) := by decide +kernel
theorem dX10_isWord_52 : decode cX10_isWord 52 = .ok (.iload_n 3, 1) := by decide +kernel
theorem dX10_isWord_53 : decode cX10_isWord 53 = .ok (.invokevirtual 289, 3) := by decide +kernel
theorem dX10_isWord_56 : decode cX10_isWord 56 = .ok (.aload_n 0, 1) := by decide +kernel
theorem dX10_isWord_57 : decode cX10_isWord 57 = .ok (.getfield 40, 3) := by decide +kernel
theorem dX10_isWord_60 : decode cX10_isWord 60 = .ok (.aload_n 0, 1) := by decide +kernel
theorem dX10_isWord_61 : decode cX10_isWord 61 = .ok (.getfield 257, 3) := by decide +kernel
theorem dX10_isWord_64 : decode cX10_isWord 64 = .ok (.iload_n 3, 1) := by decide +kernel
theorem dX10_isWord_65 : decode cX10_isWord 65 = .ok (.iadd, 1) := by decide +kernel
theorem dX10_isWord_66 : decode cX10_isWord 66 = .ok (.iaload, 1) := by decide +kernel
theorem dX10_isWord_67 : decode cX10_isWord 67 = .ok (.if_icmp .ne 7, 3) := by decide +kernel
theorem dX10_isWord_70 : decode cX10_isWord 70 = .ok (.iconst 1, 1) := by decide +kernel
theorem dX10_isWord_71 : decode cX10_isWord 71 = .ok (.goto 4, 3) := by decide +kernel
theorem dX10_isWord_74 : decode cX10_isWord 74 = .ok (.iconst 0, 1) := by decide +kernel
theorem dX10_isWord_75 : decode cX10_isWord 75 = .ok (.istore_n 2, 1) := by decide +kernel
theorem dX10_isWord_76 : decode cX10_isWord 76 = .ok (.iinc 3 1, 3) := by decide +kernel
theorem dX10_isWord_79 : decode cX10_isWord 79 = .ok (.goto (-40), 3) := by decide +kernel
theorem dX10_isWord_82 : decode cX10_isWord 82 = .ok (.iload_n 2, 1) := by decide +kernel
theorem dX10_isWord_83 : decode cX10_isWord 83 = .ok (.ireturn, 1) := by decide +kernel
theorem dX10_must_0 : decode cX10_must 0 = .ok (.aload_n 0, 1) := by decide +kernel
theorem dX10_must_1 : decode cX10_must 1 = .ok (.iload_n 1, 1) := by decide +kernel
theorem dX10_must_2 : decode cX10_must 2 = .ok (.invokevirtual 293, 3) := by decide +kernel
theorem dX10_must_5 : decode cX10_must 5 = .ok (.ifCond .ne 8, 3) := by decide +kernel
theorem dX10_must_8 : decode cX10_must 8 = .ok (.aload_n 0, 1) := by decide +kernel
theorem dX10_must_9 : decode cX10_must 9 = .ok (.iconst 1, 1) := by decide +kernel
theorem dX10_must_10 : decode cX10_must 10 = .ok (.invokevirtual 296, 3) := by decide +kernel
theorem dX10_must_13 : decode cX10_must 13 = .ok (.aload_n 0, 1) := by decide +kernel
theorem dX10_must_14 : decode cX10_must 14 = .ok (.invokevirtual 299, 3) := by decide +kernel
theorem dX10_must_17 : decode cX10_must 17 = .ok (.return_, 1) := by decide +kernel
theorem dX10_numberHere_0 : decode cX10_numberHere 0 = .ok (.aload_n 0, 1) := by decide +kernel
theorem dX10_numberHere_1 : decode cX10_numberHere 1 = .ok (.getfield 272, 3) := by decide +kernel
theorem dX10_numberHere_4 : decode cX10_numberHere 4 = .ok (.ifCond .ne 16, 3) := by decide +kernel
theorem dX10_numberHere_7 : decode cX10_numberHere 7 = .ok (.aload_n 0, 1) := by decide +kernel
theorem dX10_numberHere_8 : decode cX10_numberHere 8 = .ok (.getfield 260, 3) := by decide +kernel
theorem dX10_numberHere_11 : decode cX10_numberHere 11 = .ok (.iconst 2, 1) := by decide +kernel
theorem dX10_numberHere_12 : decode cX10_numberHere 12 = .ok (.if_icmp .eq 8, 3) := by decide +kernel
theorem dX10_numberHere_15 : decode cX10_numberHere 15 = .ok (.aload_n 0, 1) := by decide +kernel
theorem dX10_numberHere_16 : decode cX10_numberHere 16 = .ok (.iconst 1, 1) := by decide +kernel
theorem dX10_numberHere_17 : decode cX10_numberHere 17 = .ok (.invokevirtual 296, 3) := by decide +kernel
theorem dX10_numberHere_20 : decode cX10_numberHere 20 = .ok (.iconst 0, 1) := by decide +kernel
theorem dX10_numberHere_21 : decode cX10_numberHere 21 = .ok (.istore_n 3, 1) := by decide +kernel
theorem dX10_numberHere_22 : decode cX10_numberHere 22 = .ok (.aload_n 0, 1) := by decide +kernel
theorem dX10_numberHere_23 : decode cX10_numberHere 23 = .ok (.getfield 257, 3) := by decide +kernel
theorem dX10_numberHere_26 : decode cX10_numberHere 26 = .ok (.istore 4, 2) := by decide +kernel
theorem dX10_numberHere_28 : decode cX10_numberHere 28 = .ok (.aload_n 0, 1) := by decide +kernel
theorem dX10_numberHere_29 : decode cX10_numberHere 29 = .ok (.getfield 272, 3) := by decide +kernel
theorem dX10_numberHere_32 : decode cX10_numberHere 32 = .ok (.ifCond .ne 40, 3) := by decide +kernel
theorem dX10_numberHere_35 : decode cX10_numberHere 35 = .ok (.iload 4, 2) := by decide +kernel
theorem dX10_numberHere_37 : decode cX10_numberHere 37 = .ok (.aload_n 0, 1) := by decide +kernel
theorem dX10_numberHere_38 : decode cX10_numberHere 38 = .ok (.getfield 269, 3) := by decide +kernel
theorem dX10_numberHere_41 : decode cX10_numberHere 41 = .ok (.if_icmp .ge 31, 3) := by decide +kernel
theorem dX10_numberHere_44 : decode cX10_numberHere 44 = .ok (.ldc_w 302, 3) := by decide +kernel
theorem dX10_numberHere_47 : decode cX10_numberHere 47 = .ok (.bipush 10, 2) := by decide +kernel
theorem dX10_numberHere_49 : decode cX10_numberHere 49 = .ok (.iload_n 3, 1) := by decide +kernel
theorem dX10_numberHere_50 : decode cX10_numberHere 50 = .ok (.imul, 1) := by decide +kernel
theorem dX10_numberHere_51 : decode cX10_numberHere 51 = .ok (.aload_n 0, 1) := by decide +kernel
theorem dX10_numberHere_52 : decode cX10_numberHere 52 = .ok (.getfield 40, 3) := by decide +kernel
theorem dX10_numberHere_55 : decode cX10_numberHere 55 = .ok (.iload 4, 2) := by decide +kernel
theorem dX10_numberHere_57 : decode cX10_numberHere 57 = .ok (.iaload, 1) := by decide +kernel
theorem dX10_numberHere_58 : decode cX10_numberHere 58 = .ok (.iadd, 1) := by decide +kernel
theorem dX10_numberHere_59 : decode cX10_numberHere 59 = .ok (.bipush 48, 2) := by decide +kernel
theorem dX10_numberHere_61 : decode cX10_numberHere 61 = .ok (.isub, 1) := by decide +kernel
theorem dX10_numberHere_62 : decode cX10_numberHere 62 = .ok (.invokestatic 111, 3) := by decide +kernel
theorem dX10_numberHere_65 : decode cX10_numberHere 65 = .ok (.istore_n 3, 1) := by decide +kernel
theorem dX10_numberHere_66 : decode cX10_numberHere 66 = .ok (.iinc 4 1, 3) := by decide +kernel
theorem dX10_numberHere_69 : decode cX10_numberHere 69 = .ok (.goto (-41), 3) := by decide +kernel
theorem dX10_numberHere_72 : decode cX10_numberHere 72 = .ok (.aload_n 0, 1) := by decide +kernel
theorem dX10_numberHere_73 : decode cX10_numberHere 73 = .ok (.getfield 272, 3) := by decide +kernel
theorem dX10_numberHere_76 : decode cX10_numberHere 76 = .ok (.ifCond .ne 17, 3) := by decide +kernel
theorem dX10_numberHere_79 : decode cX10_numberHere 79 = .ok (.iload_n 3, 1) := by decide +kernel
theorem dX10_numberHere_80 : decode cX10_numberHere 80 = .ok (.iload_n 1, 1) := by decide +kernel
theorem dX10_numberHere_81 : decode cX10_numberHere 81 = .ok (.iload_n 2, 1) := by decide +kernel
theorem dX10_numberHere_82 : decode cX10_numberHere 82 = .ok (.invokestatic 58, 3) := by decide +kernel
theorem dX10_numberHere_85 : decode cX10_numberHere 85 = .ok (.ifCond .ne 8, 3) := by decide +kernel
theorem dX10_numberHere_88 : decode cX10_numberHere 88 = .ok (.aload_n 0, 1) := by decide +kernel
theorem dX10_numberHere_89 : decode cX10_numberHere 89 = .ok (.iconst 2, 1) := by decide +kernel
theorem dX10_numberHere_90 : decode cX10_numberHere 90 = .ok (.invokevirtual 296, 3) := by decide +kernel
theorem dX10_numberHere_93 : decode cX10_numberHere 93 = .ok (.iload_n 3, 1) := by decide +kernel
theorem dX10_numberHere_94 : decode cX10_numberHere 94 = .ok (.ireturn, 1) := by decide +kernel
theorem dX10_number_0 : decode cX10_number 0 = .ok (.aload_n 0, 1) := by decide +kernel
theorem dX10_number_1 : decode cX10_number 1 = .ok (.iload_n 1, 1) := by decide +kernel
theorem dX10_number_2 : decode cX10_number 2 = .ok (.iload_n 2, 1) := by decide +kernel
theorem dX10_number_3 : decode cX10_number 3 = .ok (.invokevirtual 303, 3) := by decide +kernel
theorem dX10_number_6 : decode cX10_number 6 = .ok (.istore_n 3, 1) := by decide +kernel
theorem dX10_number_7 : decode cX10_number 7 = .ok (.aload_n 0, 1) := by decide +kernel
theorem dX10_number_8 : decode cX10_number 8 = .ok (.invokevirtual 299, 3) := by decide +kernel
theorem dX10_number_11 : decode cX10_number 11 = .ok (.iload_n 3, 1) := by decide +kernel
theorem dX10_number_12 : decode cX10_number 12 = .ok (.ireturn, 1) := by decide +kernel
theorem dX10_ends_0 : decode cX10_ends 0 = .ok (.aload_n 0, 1) := by decide +kernel
theorem dX10_ends_1 : decode cX10_ends 1 = .ok (.iconst 0, 1) := by decide +kernel
theorem dX10_ends_2 : decode cX10_ends 2 = .ok (.putfield 165, 3) := by decide +kernel
theorem dX10_ends_5 : decode cX10_ends 5 = .ok (.aload_n 0, 1) := by decide +kernel
theorem dX10_ends_6 : decode cX10_ends 6 = .ok (.aload_n 0, 1) := by decide +kernel
theorem dX10_ends_7 : decode cX10_ends 7 = .ok (.getfield 272, 3) := by decide +kernel
theorem dX10_ends_10 : decode cX10_ends 10 = .ok (.ifCond .ne 7, 3) := by decide +kernel
theorem dX10_ends_13 : decode cX10_ends 13 = .ok (.iconst (-1), 1) := by decide +kernel
theorem dX10_ends_14 : decode cX10_ends 14 = .ok (.goto 7, 3) := by decide +kernel
theorem dX10_ends_17 : decode cX10_ends 17 = .ok (.aload_n 0, 1) := by decide +kernel
theorem dX10_ends_18 : decode cX10_ends 18 = .ok (.getfield 281, 3) := by decide +kernel
theorem dX10_ends_21 : decode cX10_ends 21 = .ok (.putfield 43, 3) := by decide +kernel
theorem dX10_ends_24 : decode cX10_ends 24 = .ok (.aload_n 0, 1) := by decide +kernel
theorem dX10_ends_25 : decode cX10_ends 25 = .ok (.getfield 272, 3) := by decide +kernel
theorem dX10_ends_28 : decode cX10_ends 28 = .ok (.ireturn, 1) := by decide +kernel
theorem dX10_isName_0 : decode cX10_isName 0 = .ok (.aload_n 0, 1) := by decide +kernel
theorem dX10_isName_1 : decode cX10_isName 1 = .ok (.getfield 272, 3) := by decide +kernel
theorem dX10_isName_4 : decode cX10_isName 4 = .ok (.ifCond .ne 39, 3) := by decide +kernel
theorem dX10_isName_7 : decode cX10_isName 7 = .ok (.aload_n 0, 1) := by decide +kernel
theorem dX10_isName_8 : decode cX10_isName 8 = .ok (.getfield 260, 3) := by decide +kernel
theorem dX10_isName_11 : decode cX10_isName 11 = .ok (.iconst 1, 1) := by decide +kernel
theorem dX10_isName_12 : decode cX10_isName 12 = .ok (.if_icmp .ne 31, 3) := by decide +kernel
theorem dX10_isName_15 : decode cX10_isName 15 = .ok (.aload_n 0, 1) := by decide +kernel
theorem dX10_isName_16 : decode cX10_isName 16 = .ok (.getfield 269, 3) := by decide +kernel
theorem dX10_isName_19 : decode cX10_isName 19 = .ok (.aload_n 0, 1) := by decide +kernel
theorem dX10_isName_20 : decode cX10_isName 20 = .ok (.getfield 257, 3) := by decide +kernel
theorem dX10_isName_23 : decode cX10_isName 23 = .ok (.isub, 1) := by decide +kernel
theorem dX10_isName_24 : decode cX10_isName 24 = .ok (.bipush 6, 2) := by decide +kernel
theorem dX10_isName_26 : decode cX10_isName 26 = .ok (.if_icmp .gt 17, 3) := by decide +kernel
theorem dX10_isName_29 : decode cX10_isName 29 = .ok (.aload_n 0, 1) := by decide +kernel
theorem dX10_isName_30 : decode cX10_isName 30 = .ok (.ldc_w 306, 3) := by decide +kernel
theorem dX10_isName_33 : decode cX10_isName 33 = .ok (.invokevirtual 308, 3) := by decide +kernel
theorem dX10_isName_36 : decode cX10_isName 36 = .ok (.ifCond .ne 7, 3) := by decide +kernel
theorem dX10_isName_39 : decode cX10_isName 39 = .ok (.iconst 1, 1) := by decide +kernel
theorem dX10_isName_40 : decode cX10_isName 40 = .ok (.goto 4, 3) := by decide +kernel
theorem dX10_isName_43 : decode cX10_isName 43 = .ok (.iconst 0, 1) := by decide +kernel
theorem dX10_isName_44 : decode cX10_isName 44 = .ok (.ireturn, 1) := by decide +kernel
theorem dX10_letterHere_0 : decode cX10_letterHere 0 = .ok (.aload_n 0, 1) := by decide +kernel
theorem dX10_letterHere_1 : decode cX10_letterHere 1 = .ok (.getfield 257, 3) := by decide +kernel
theorem dX10_letterHere_4 : decode cX10_letterHere 4 = .ok (.iload_n 1, 1) := by decide +kernel
theorem dX10_letterHere_5 : decode cX10_letterHere 5 = .ok (.iadd, 1) := by decide +kernel
theorem dX10_letterHere_6 : decode cX10_letterHere 6 = .ok (.aload_n 0, 1) := by decide +kernel
theorem dX10_letterHere_7 : decode cX10_letterHere 7 = .ok (.getfield 269, 3) := by decide +kernel
theorem dX10_letterHere_10 : decode cX10_letterHere 10 = .ok (.if_icmp .ge 20, 3) := by decide +kernel
theorem dX10_letterHere_13 : decode cX10_letterHere 13 = .ok (.aload_n 0, 1) := by decide +kernel
theorem dX10_letterHere_14 : decode cX10_letterHere 14 = .ok (.getfield 40, 3) := by decide +kernel
theorem dX10_letterHere_17 : decode cX10_letterHere 17 = .ok (.aload_n 0, 1) := by decide +kernel
theorem dX10_letterHere_18 : decode cX10_letterHere 18 = .ok (.getfield 257, 3) := by decide +kernel
theorem dX10_letterHere_21 : decode cX10_letterHere 21 = .ok (.iload_n 1, 1) := by decide +kernel
theorem dX10_letterHere_22 : decode cX10_letterHere 22 = .ok (.iadd, 1) := by decide +kernel
theorem dX10_letterHere_23 : decode cX10_letterHere 23 = .ok (.iaload, 1) := by decide +kernel
theorem dX10_letterHere_24 : decode cX10_letterHere 24 = .ok (.bipush 96, 2) := by decide +kernel
theorem dX10_letterHere_26 : decode cX10_letterHere 26 = .ok (.isub, 1) := by decide +kernel
theorem dX10_letterHere_27 : decode cX10_letterHere 27 = .ok (.goto 4, 3) := by decide +kernel
theorem dX10_letterHere_30 : decode cX10_letterHere 30 = .ok (.iconst 0, 1) := by decide +kernel
theorem dX10_letterHere_31 : decode cX10_letterHere 31 = .ok (.ireturn, 1) := by decide +kernel
theorem dX10_named_0 : decode cX10_named 0 = .ok (.iconst 0, 1) := by decide +kernel
theorem dX10_named_1 : decode cX10_named 1 = .ok (.istore_n 1, 1) := by decide +kernel
theorem dX10_named_2 : decode cX10_named 2 = .ok (.iload_n 1, 1) := by decide +kernel
theorem dX10_named_3 : decode cX10_named 3 = .ok (.aload_n 0, 1) := by decide +kernel
theorem dX10_named_4 : decode cX10_named 4 = .ok (.getfield 13, 3) := by decide +kernel
theorem dX10_named_7 : decode cX10_named 7 = .ok (.iconst 0, 1) := by decide +kernel
theorem dX10_named_8 : decode cX10_named 8 = .ok (.iaload, 1) := by decide +kernel
theorem dX10_named_9 : decode cX10_named 9 = .ok (.if_icmp .ge 63, 3) := by decide +kernel
theorem dX10_named_12 : decode cX10_named 12 = .ok (.iconst 1, 1) := by decide +kernel
theorem dX10_named_13 : decode cX10_named 13 = .ok (.istore_n 2, 1) := by decide +kernel
theorem dX10_named_14 : decode cX10_named 14 = .ok (.iconst 0, 1) := by decide +kernel
theorem dX10_named_15 : decode cX10_named 15 = .ok (.istore_n 3, 1) := by decide +kernel
theorem dX10_named_16 : decode cX10_named 16 = .ok (.iload_n 3, 1) := by decide +kernel
theorem dX10_named_17 : decode cX10_named 17 = .ok (.bipush 6, 2) := by decide +kernel
theorem dX10_named_19 : decode cX10_named 19 = .ok (.if_icmp .ge 41, 3) := by decide +kernel
theorem dX10_named_22 : decode cX10_named 22 = .ok (.iload_n 2, 1) := by decide +kernel
theorem dX10_named_23 : decode cX10_named 23 = .ok (.ifCond .eq 29, 3) := by decide +kernel
theorem dX10_named_26 : decode cX10_named 26 = .ok (.aload_n 0, 1) := by decide +kernel
theorem dX10_named_27 : decode cX10_named 27 = .ok (.getfield 13, 3) := by decide +kernel
theorem dX10_named_30 : decode cX10_named 30 = .ok (.bipush 6, 2) := by decide +kernel
theorem dX10_named_32 : decode cX10_named 32 = .ok (.bipush 6, 2) := by decide +kernel
theorem dX10_named_34 : decode cX10_named 34 = .ok (.iload_n 1, 1) := by decide +kernel
theorem dX10_named_35 : decode cX10_named 35 = .ok (.imul, 1) := by decide +kernel
theorem dX10_named_36 : decode cX10_named 36 = .ok (.iadd, 1) := by decide +kernel
theorem dX10_named_37 : decode cX10_named 37 = .ok (.iload_n 3, 1) := by decide +kernel
theorem dX10_named_38 : decode cX10_named 38 = .ok (.iadd, 1) := by decide +kernel
theorem dX10_named_39 : decode cX10_named 39 = .ok (.iaload, 1) := by decide +kernel
theorem dX10_named_40 : decode cX10_named 40 = .ok (.aload_n 0, 1) := by decide +kernel
theorem dX10_named_41 : decode cX10_named 41 = .ok (.iload_n 3, 1) := by decide +kernel
theorem dX10_named_42 : decode cX10_named 42 = .ok (.invokevirtual 312, 3) := by decide +kernel
theorem dX10_named_45 : decode cX10_named 45 = .ok (.if_icmp .ne 7, 3) := by decide +kernel
theorem dX10_named_48 : decode cX10_named 48 = .ok (.iconst 1, 1) := by decide +kernel
theorem dX10_named_49 : decode cX10_named 49 = .ok (.goto 4, 3) := by decide +kernel
theorem dX10_named_52 : decode cX10_named 52 = .ok (.iconst 0, 1) := by decide +kernel
theorem dX10_named_53 : decode cX10_named 53 = .ok (.istore_n 2, 1) := by decide +kernel
theorem dX10_named_54 : decode cX10_named 54 = .ok (.iinc 3 1, 3) := by decide +kernel
theorem dX10_named_57 : decode cX10_named 57 = .ok (.goto (-41), 3) := by decide +kernel
theorem dX10_named_60 : decode cX10_named 60 = .ok (.iload_n 2, 1) := by decide +kernel
theorem dX10_named_61 : decode cX10_named 61 = .ok (.ifCond .eq 5, 3) := by decide +kernel
theorem dX10_named_64 : decode cX10_named 64 = .ok (.iload_n 1, 1) := by decide +kernel
theorem dX10_named_65 : decode cX10_named 65 = .ok (.ireturn, 1) := by decide +kernel
theorem dX10_named_66 : decode cX10_named 66 = .ok (.iinc 1 1, 3) := by decide +kernel
theorem dX10_named_69 : decode cX10_named 69 = .ok (.goto (-67), 3) := by decide +kernel
theorem dX10_named_72 : decode cX10_named 72 = .ok (.iconst (-1), 1) := by decide +kernel
theorem dX10_named_73 : decode cX10_named 73 = .ok (.ireturn, 1) := by decide +kernel
theorem dX10_readKnown_0 : decode cX10_readKnown 0 = .ok (.aload_n 0, 1) := by decide +kernel
theorem dX10_readKnown_1 : decode cX10_readKnown 1 = .ok (.invokevirtual 315, 3) := by decide +kernel
theorem dX10_readKnown_4 : decode cX10_readKnown 4 = .ok (.ifCond .ne 8, 3) := by decide +kernel
theorem dX10_readKnown_7 : decode cX10_readKnown 7 = .ok (.aload_n 0, 1) := by decide +kernel
theorem dX10_readKnown_8 : decode cX10_readKnown 8 = .ok (.iconst 1, 1) := by decide +kernel
theorem dX10_readKnown_9 : decode cX10_readKnown 9 = .ok (.invokevirtual 296, 3) := by decide +kernel
theorem dX10_readKnown_12 : decode cX10_readKnown 12 = .ok (.aload_n 0, 1) := by decide +kernel
theorem dX10_readKnown_13 : decode cX10_readKnown 13 = .ok (.getfield 272, 3) := by decide +kernel
theorem dX10_readKnown_16 : decode cX10_readKnown 16 = .ok (.ifCond .ne 10, 3) := by decide +kernel
theorem dX10_readKnown_19 : decode cX10_readKnown 19 = .ok (.aload_n 0, 1) := by decide +kernel
theorem dX10_readKnown_20 : decode cX10_readKnown 20 = .ok (.invokevirtual 319, 3) := by decide +kernel
theorem dX10_readKnown_23 : decode cX10_readKnown 23 = .ok (.goto 4, 3) := by decide +kernel
theorem dX10_readKnown_26 : decode cX10_readKnown 26 = .ok (.iconst (-1), 1) := by decide +kernel
theorem dX10_readKnown_27 : decode cX10_readKnown 27 = .ok (.istore_n 2, 1) := by decide +kernel
theorem dX10_readKnown_28 : decode cX10_readKnown 28 = .ok (.aload_n 0, 1) := by decide +kernel
theorem dX10_readKnown_29 : decode cX10_readKnown 29 = .ok (.getfield 272, 3) := by decide +kernel
theorem dX10_readKnown_32 : decode cX10_readKnown 32 = .ok (.ifCond .ne 18, 3) := by decide +kernel
theorem dX10_readKnown_35 : decode cX10_readKnown 35 = .ok (.iload_n 2, 1) := by decide +kernel
theorem dX10_readKnown_36 : decode cX10_readKnown 36 = .ok (.iconst (-1), 1) := by decide +kernel
theorem dX10_readKnown_37 : decode cX10_readKnown 37 = .ok (.if_icmp .eq 8, 3) := by decide +kernel
theorem dX10_readKnown_40 : decode cX10_readKnown 40 = .ok (.iload_n 2, 1) := by decide +kernel
theorem dX10_readKnown_41 : decode cX10_readKnown 41 = .ok (.iload_n 1, 1) := by decide +kernel
theorem dX10_readKnown_42 : decode cX10_readKnown 42 = .ok (.if_icmp .ne 8, 3) := by decide +kernel
theorem dX10_readKnown_45 : decode cX10_readKnown 45 = .ok (.aload_n 0, 1) := by decide +kernel
theorem dX10_readKnown_46 : decode cX10_readKnown 46 = .ok (.iconst 3, 1) := by decide +kernel
theorem dX10_readKnown_47 : decode cX10_readKnown 47 = .ok (.invokevirtual 296, 3) := by decide +kernel
theorem dX10_readKnown_50 : decode cX10_readKnown 50 = .ok (.aload_n 0, 1) := by decide +kernel
theorem dX10_readKnown_51 : decode cX10_readKnown 51 = .ok (.invokevirtual 299, 3) := by decide +kernel
theorem dX10_readKnown_54 : decode cX10_readKnown 54 = .ok (.iload_n 2, 1) := by decide +kernel
theorem dX10_readKnown_55 : decode cX10_readKnown 55 = .ok (.ireturn, 1) := by decide +kernel
theorem dX10_readPerson_0 : decode cX10_readPerson 0 = .ok (.aload_n 0, 1) := by decide +kernel
theorem dX10_readPerson_1 : decode cX10_readPerson 1 = .ok (.getfield 13, 3) := by decide +kernel
theorem dX10_readPerson_4 : decode cX10_readPerson 4 = .ok (.iconst 0, 1) := by decide +kernel
theorem dX10_readPerson_5 : decode cX10_readPerson 5 = .ok (.iaload, 1) := by decide +kernel
theorem dX10_readPerson_6 : decode cX10_readPerson 6 = .ok (.bipush 12, 2) := by decide +kernel
theorem dX10_readPerson_8 : decode cX10_readPerson 8 = .ok (.if_icmp .ne 8, 3) := by decide +kernel
theorem dX10_readPerson_11 : decode cX10_readPerson 11 = .ok (.aload_n 0, 1) := by decide +kernel
theorem dX10_readPerson_12 : decode cX10_readPerson 12 = .ok (.iconst 4, 1) := by decide +kernel
theorem dX10_readPerson_13 : decode cX10_readPerson 13 = .ok (.invokevirtual 296, 3) := by decide +kernel
theorem dX10_readPerson_16 : decode cX10_readPerson 16 = .ok (.aload_n 0, 1) := by decide +kernel
theorem dX10_readPerson_17 : decode cX10_readPerson 17 = .ok (.invokevirtual 299, 3) := by decide +kernel
theorem dX10_readPerson_20 : decode cX10_readPerson 20 = .ok (.aload_n 0, 1) := by decide +kernel
theorem dX10_readPerson_21 : decode cX10_readPerson 21 = .ok (.invokevirtual 315, 3) := by decide +kernel
theorem dX10_readPerson_24 : decode cX10_readPerson 24 = .ok (.ifCond .ne 11, 3) := by decide +kernel
theorem dX10_readPerson_27 : decode cX10_readPerson 27 = .ok (.aload_n 0, 1) := by decide +kernel
theorem dX10_readPerson_28 : decode cX10_readPerson 28 = .ok (.iconst 1, 1) := by decide +kernel
theorem dX10_readPerson_29 : decode cX10_readPerson 29 = .ok (.invokevirtual 296, 3) := by decide +kernel
theorem dX10_readPerson_32 : decode cX10_readPerson 32 = .ok (.goto 16, 3) := by decide +kernel
theorem dX10_readPerson_35 : decode cX10_readPerson 35 = .ok (.aload_n 0, 1) := by decide +kernel
theorem dX10_readPerson_36 : decode cX10_readPerson 36 = .ok (.invokevirtual 319, 3) := by decide +kernel
theorem dX10_readPerson_39 : decode cX10_readPerson 39 = .ok (.iconst (-1), 1) := by decide +kernel
theorem dX10_readPerson_40 : decode cX10_readPerson 40 = .ok (.if_icmp .eq 8, 3) := by decide +kernel
theorem dX10_readPerson_43 : decode cX10_readPerson 43 = .ok (.aload_n 0, 1) := by decide +kernel
theorem dX10_readPerson_44 : decode cX10_readPerson 44 = .ok (.iconst 3, 1) := by decide +kernel
theorem dX10_readPerson_45 : decode cX10_readPerson 45 = .ok (.invokevirtual 296, 3) := by decide +kernel
theorem dX10_readPerson_48 : decode cX10_readPerson 48 = .ok (.aload_n 0, 1) := by decide +kernel
theorem dX10_readPerson_49 : decode cX10_readPerson 49 = .ok (.getfield 272, 3) := by decide +kernel
theorem dX10_readPerson_52 : decode cX10_readPerson 52 = .ok (.ifCond .eq 4, 3) := by decide +kernel
theorem dX10_readPerson_55 : decode cX10_readPerson 55 = .ok (.return_, 1) := by decide +kernel
theorem dX10_readPerson_56 : decode cX10_readPerson 56 = .ok (.iconst 0, 1) := by decide +kernel
theorem dX10_readPerson_57 : decode cX10_readPerson 57 = .ok (.istore_n 1, 1) := by decide +kernel
theorem dX10_readPerson_58 : decode cX10_readPerson 58 = .ok (.iload_n 1, 1) := by decide +kernel
theorem dX10_readPerson_59 : decode cX10_readPerson 59 = .ok (.bipush 6, 2) := by decide +kernel
theorem dX10_readPerson_61 : decode cX10_readPerson 61 = .ok (.if_icmp .ge 33, 3) := by decide +kernel
theorem dX10_readPerson_64 : decode cX10_readPerson 64 = .ok (.aload_n 0, 1) := by decide +kernel
theorem dX10_readPerson_65 : decode cX10_readPerson 65 = .ok (.getfield 13, 3) := by decide +kernel
theorem dX10_readPerson_68 : decode cX10_readPerson 68 = .ok (.bipush 6, 2) := by decide +kernel
theorem dX10_readPerson_70 : decode cX10_readPerson 70 = .ok (.bipush 6, 2) := by decide +kernel
theorem dX10_readPerson_72 : decode cX10_readPerson 72 = .ok (.aload_n 0, 1) := by decide +kernel
theorem dX10_readPerson_73 : decode cX10_readPerson 73 = .ok (.getfield 13, 3) := by decide +kernel
theorem dX10_readPerson_76 : decode cX10_readPerson 76 = .ok (.iconst 0, 1) := by decide +kernel
theorem dX10_readPerson_77 : decode cX10_readPerson 77 = .ok (.iaload, 1) := by decide +kernel
theorem dX10_readPerson_78 : decode cX10_readPerson 78 = .ok (.imul, 1) := by decide +kernel
theorem dX10_readPerson_79 : decode cX10_readPerson 79 = .ok (.iadd, 1) := by decide +kernel
theorem dX10_readPerson_80 : decode cX10_readPerson 80 = .ok (.iload_n 1, 1) := by decide +kernel
theorem dX10_readPerson_81 : decode cX10_readPerson 81 = .ok (.iadd, 1) := by decide +kernel
theorem dX10_readPerson_82 : decode cX10_readPerson 82 = .ok (.aload_n 0, 1) := by decide +kernel
theorem dX10_readPerson_83 : decode cX10_readPerson 83 = .ok (.iload_n 1, 1) := by decide +kernel
theorem dX10_readPerson_84 : decode cX10_readPerson 84 = .ok (.invokevirtual 312, 3) := by decide +kernel
theorem dX10_readPerson_87 : decode cX10_readPerson 87 = .ok (.iastore, 1) := by decide +kernel
theorem dX10_readPerson_88 : decode cX10_readPerson 88 = .ok (.iinc 1 1, 3) := by decide +kernel
theorem dX10_readPerson_91 : decode cX10_readPerson 91 = .ok (.goto (-33), 3) := by decide +kernel
theorem dX10_readPerson_94 : decode cX10_readPerson 94 = .ok (.aload_n 0, 1) := by decide +kernel
theorem dX10_readPerson_95 : decode cX10_readPerson 95 = .ok (.getfield 13, 3) := by decide +kernel
theorem dX10_readPerson_98 : decode cX10_readPerson 98 = .ok (.iconst 0, 1) := by decide +kernel
theorem dX10_readPerson_99 : decode cX10_readPerson 99 = .ok (.dup2, 1) := by decide +kernel
theorem dX10_readPerson_100 : decode cX10_readPerson 100 = .ok (.iaload, 1) := by decide +kernel
theorem dX10_readPerson_101 : decode cX10_readPerson 101 = .ok (.iconst 1, 1) := by decide +kernel
theorem dX10_readPerson_102 : decode cX10_readPerson 102 = .ok (.iadd, 1) := by decide +kernel
theorem dX10_readPerson_103 : decode cX10_readPerson 103 = .ok (.iastore, 1) := by decide +kernel
theorem dX10_readPerson_104 : decode cX10_readPerson 104 = .ok (.aload_n 0, 1) := by decide +kernel
theorem dX10_readPerson_105 : decode cX10_readPerson 105 = .ok (.invokevirtual 299, 3) := by decide +kernel
theorem dX10_readPerson_108 : decode cX10_readPerson 108 = .ok (.return_, 1) := by decide +kernel
theorem dX10_readLink_0 : decode cX10_readLink 0 = .ok (.aload_n 0, 1) := by decide +kernel
theorem dX10_readLink_1 : decode cX10_readLink 1 = .ok (.getfield 13, 3) := by decide +kernel
theorem dX10_readLink_4 : decode cX10_readLink 4 = .ok (.iconst 1, 1) := by decide +kernel
theorem dX10_readLink_5 : decode cX10_readLink 5 = .ok (.iaload, 1) := by decide +kernel
theorem dX10_readLink_6 : decode cX10_readLink 6 = .ok (.bipush 24, 2) := by decide +kernel
theorem dX10_readLink_8 : decode cX10_readLink 8 = .ok (.if_icmp .ne 8, 3) := by decide +kernel
theorem dX10_readLink_11 : decode cX10_readLink 11 = .ok (.aload_n 0, 1) := by decide +kernel
theorem dX10_readLink_12 : decode cX10_readLink 12 = .ok (.iconst 4, 1) := by decide +kernel
theorem dX10_readLink_13 : decode cX10_readLink 13 = .ok (.invokevirtual 296, 3) := by decide +kernel
theorem dX10_readLink_16 : decode cX10_readLink 16 = .ok (.aload_n 0, 1) := by decide +kernel
theorem dX10_readLink_17 : decode cX10_readLink 17 = .ok (.invokevirtual 299, 3) := by decide +kernel
theorem dX10_readLink_20 : decode cX10_readLink 20 = .ok (.aload_n 0, 1) := by decide +kernel
theorem dX10_readLink_21 : decode cX10_readLink 21 = .ok (.iconst (-1), 1) := by decide +kernel
theorem dX10_readLink_22 : decode cX10_readLink 22 = .ok (.invokevirtual 322, 3) := by decide +kernel
theorem dX10_readLink_25 : decode cX10_readLink 25 = .ok (.istore_n 2, 1) := by decide +kernel
theorem dX10_readLink_26 : decode cX10_readLink 26 = .ok (.aload_n 0, 1) := by decide +kernel
theorem dX10_readLink_27 : decode cX10_readLink 27 = .ok (.iload_n 2, 1) := by decide +kernel
theorem dX10_readLink_28 : decode cX10_readLink 28 = .ok (.invokevirtual 322, 3) := by decide +kernel
theorem dX10_readLink_31 : decode cX10_readLink 31 = .ok (.istore_n 3, 1) := by decide +kernel
theorem dX10_readLink_32 : decode cX10_readLink 32 = .ok (.aload_n 0, 1) := by decide +kernel
theorem dX10_readLink_33 : decode cX10_readLink 33 = .ok (.iconst 0, 1) := by decide +kernel
theorem dX10_readLink_34 : decode cX10_readLink 34 = .ok (.sipush 9999, 3) := by decide +kernel
theorem dX10_readLink_37 : decode cX10_readLink 37 = .ok (.invokevirtual 325, 3) := by decide +kernel
theorem dX10_readLink_40 : decode cX10_readLink 40 = .ok (.istore 4, 2) := by decide +kernel
theorem dX10_readLink_42 : decode cX10_readLink 42 = .ok (.iload_n 1, 1) := by decide +kernel
theorem dX10_readLink_43 : decode cX10_readLink 43 = .ok (.ifCond .eq 15, 3) := by decide +kernel
theorem dX10_readLink_46 : decode cX10_readLink 46 = .ok (.aload_n 0, 1) := by decide +kernel
theorem dX10_readLink_47 : decode cX10_readLink 47 = .ok (.iload 4, 2) := by decide +kernel
theorem dX10_readLink_49 : decode cX10_readLink 49 = .ok (.sipush 9999, 3) := by decide +kernel
theorem dX10_readLink_52 : decode cX10_readLink 52 = .ok (.invokevirtual 325, 3) := by decide +kernel
theorem dX10_readLink_55 : decode cX10_readLink 55 = .ok (.goto 6, 3) := by decide +kernel
theorem dX10_readLink_58 : decode cX10_readLink 58 = .ok (.sipush 9999, 3) := by decide +kernel
theorem dX10_readLink_61 : decode cX10_readLink 61 = .ok (.istore 5, 2) := by decide +kernel
theorem dX10_readLink_63 : decode cX10_readLink 63 = .ok (.aload_n 0, 1) := by decide +kernel
theorem dX10_readLink_64 : decode cX10_readLink 64 = .ok (.getfield 272, 3) := by decide +kernel
theorem dX10_readLink_67 : decode cX10_readLink 67 = .ok (.ifCond .eq 4, 3) := by decide +kernel
theorem dX10_readLink_70 : decode cX10_readLink 70 = .ok (.return_, 1) := by decide +kernel
theorem dX10_readLink_71 : decode cX10_readLink 71 = .ok (.aload_n 0, 1) := by decide +kernel
theorem dX10_readLink_72 : decode cX10_readLink 72 = .ok (.getfield 13, 3) := by decide +kernel
theorem dX10_readLink_75 : decode cX10_readLink 75 = .ok (.aload_n 0, 1) := by decide +kernel
theorem dX10_readLink_76 : decode cX10_readLink 76 = .ok (.getfield 13, 3) := by decide +kernel
theorem dX10_readLink_79 : decode cX10_readLink 79 = .ok (.iconst 1, 1) := by decide +kernel
theorem dX10_readLink_80 : decode cX10_readLink 80 = .ok (.iaload, 1) := by decide +kernel
theorem dX10_readLink_81 : decode cX10_readLink 81 = .ok (.iload_n 2, 1) := by decide +kernel
theorem dX10_readLink_82 : decode cX10_readLink 82 = .ok (.iload_n 3, 1) := by decide +kernel
theorem dX10_readLink_83 : decode cX10_readLink 83 = .ok (.iload_n 1, 1) := by decide +kernel
theorem dX10_readLink_84 : decode cX10_readLink 84 = .ok (.ifCond .eq 7, 3) := by decide +kernel
theorem dX10_readLink_87 : decode cX10_readLink 87 = .ok (.iconst 1, 1) := by decide +kernel
theorem dX10_readLink_88 : decode cX10_readLink 88 = .ok (.goto 4, 3) := by decide +kernel
theorem dX10_readLink_91 : decode cX10_readLink 91 = .ok (.iconst 0, 1) := by decide +kernel
theorem dX10_readLink_92 : decode cX10_readLink 92 = .ok (.iload 4, 2) := by decide +kernel
theorem dX10_readLink_94 : decode cX10_readLink 94 = .ok (.iload 5, 2) := by decide +kernel
theorem dX10_readLink_96 : decode cX10_readLink 96 = .ok (.invokestatic 233, 3) := by decide +kernel
theorem dX10_readLink_99 : decode cX10_readLink 99 = .ok (.aload_n 0, 1) := by decide +kernel
theorem dX10_readLink_100 : decode cX10_readLink 100 = .ok (.getfield 13, 3) := by decide +kernel
theorem dX10_readLink_103 : decode cX10_readLink 103 = .ok (.iconst 1, 1) := by decide +kernel
theorem dX10_readLink_104 : decode cX10_readLink 104 = .ok (.dup2, 1) := by decide +kernel
theorem dX10_readLink_105 : decode cX10_readLink 105 = .ok (.iaload, 1) := by decide +kernel
theorem dX10_readLink_106 : decode cX10_readLink 106 = .ok (.iconst 1, 1) := by decide +kernel
theorem dX10_readLink_107 : decode cX10_readLink 107 = .ok (.iadd, 1) := by decide +kernel
theorem dX10_readLink_108 : decode cX10_readLink 108 = .ok (.iastore, 1) := by decide +kernel
theorem dX10_readLink_109 : decode cX10_readLink 109 = .ok (.return_, 1) := by decide +kernel
theorem dX10_readSet_0 : decode cX10_readSet 0 = .ok (.iconst 0, 1) := by decide +kernel
theorem dX10_readSet_1 : decode cX10_readSet 1 = .ok (.istore_n 3, 1) := by decide +kernel
theorem dX10_readSet_2 : decode cX10_readSet 2 = .ok (.aload_n 0, 1) := by decide +kernel
theorem dX10_readSet_3 : decode cX10_readSet 3 = .ok (.aload_n 1, 1) := by decide +kernel
theorem dX10_readSet_4 : decode cX10_readSet 4 = .ok (.invokevirtual 308, 3) := by decide +kernel
theorem dX10_readSet_7 : decode cX10_readSet 7 = .ok (.ifCond .ne 5, 3) := by decide +kernel
theorem dX10_readSet_10 : decode cX10_readSet 10 = .ok (.iload_n 3, 1) := by decide +kernel
theorem dX10_readSet_11 : decode cX10_readSet 11 = .ok (.ireturn, 1) := by decide +kernel
theorem dX10_readSet_12 : decode cX10_readSet 12 = .ok (.aload_n 0, 1) := by decide +kernel
theorem dX10_readSet_13 : decode cX10_readSet 13 = .ok (.invokevirtual 299, 3) := by decide +kernel
theorem dX10_readSet_16 : decode cX10_readSet 16 = .ok (.aload_n 0, 1) := by decide +kernel
theorem dX10_readSet_17 : decode cX10_readSet 17 = .ok (.getfield 272, 3) := by decide +kernel
theorem dX10_readSet_20 : decode cX10_readSet 20 = .ok (.ifCond .ne 66, 3) := by decide +kernel
theorem dX10_readSet_23 : decode cX10_readSet 23 = .ok (.aload_n 0, 1) := by decide +kernel
theorem dX10_readSet_24 : decode cX10_readSet 24 = .ok (.getfield 260, 3) := by decide +kernel
theorem dX10_readSet_27 : decode cX10_readSet 27 = .ok (.iconst 2, 1) := by decide +kernel
theorem dX10_readSet_28 : decode cX10_readSet 28 = .ok (.if_icmp .ne 58, 3) := by decide +kernel
theorem dX10_readSet_31 : decode cX10_readSet 31 = .ok (.aload_n 0, 1) := by decide +kernel
theorem dX10_readSet_32 : decode cX10_readSet 32 = .ok (.iconst 0, 1) := by decide +kernel
theorem dX10_readSet_33 : decode cX10_readSet 33 = .ok (.bipush 30, 2) := by decide +kernel
theorem dX10_readSet_35 : decode cX10_readSet 35 = .ok (.invokevirtual 303, 3) := by decide +kernel
theorem dX10_readSet_38 : decode cX10_readSet 38 = .ok (.istore 4, 2) := by decide +kernel
theorem dX10_readSet_40 : decode cX10_readSet 40 = .ok (.aload_n 0, 1) := by decide +kernel
theorem dX10_readSet_41 : decode cX10_readSet 41 = .ok (.getfield 272, 3) := by decide +kernel
theorem dX10_readSet_44 : decode cX10_readSet 44 = .ok (.ifCond .ne 21, 3) := by decide +kernel
theorem dX10_readSet_47 : decode cX10_readSet 47 = .ok (.iload_n 2, 1) := by decide +kernel
theorem dX10_readSet_48 : decode cX10_readSet 48 = .ok (.iload_n 3, 1) := by decide +kernel
theorem dX10_readSet_49 : decode cX10_readSet 49 = .ok (.iconst (-1), 1) := by decide +kernel
theorem dX10_readSet_50 : decode cX10_readSet 50 = .ok (.ixor, 1) := by decide +kernel
theorem dX10_readSet_51 : decode cX10_readSet 51 = .ok (.iand, 1) := by decide +kernel
theorem dX10_readSet_52 : decode cX10_readSet 52 = .ok (.iload 4, 2) := by decide +kernel
theorem dX10_readSet_54 : decode cX10_readSet 54 = .ok (.invokestatic 98, 3) := by decide +kernel
theorem dX10_readSet_57 : decode cX10_readSet 57 = .ok (.ifCond .ne 8, 3) := by decide +kernel
theorem dX10_readSet_60 : decode cX10_readSet 60 = .ok (.aload_n 0, 1) := by decide +kernel
theorem dX10_readSet_61 : decode cX10_readSet 61 = .ok (.iconst 2, 1) := by decide +kernel
theorem dX10_readSet_62 : decode cX10_readSet 62 = .ok (.invokevirtual 296, 3) := by decide +kernel
theorem dX10_readSet_65 : decode cX10_readSet 65 = .ok (.aload_n 0, 1) := by decide +kernel
theorem dX10_readSet_66 : decode cX10_readSet 66 = .ok (.getfield 272, 3) := by decide +kernel
theorem dX10_readSet_69 : decode cX10_readSet 69 = .ok (.ifCond .ne 10, 3) := by decide +kernel
theorem dX10_readSet_72 : decode cX10_readSet 72 = .ok (.iload_n 3, 1) := by decide +kernel
theorem dX10_readSet_73 : decode cX10_readSet 73 = .ok (.iconst 1, 1) := by decide +kernel
theorem dX10_readSet_74 : decode cX10_readSet 74 = .ok (.iload 4, 2) := by decide +kernel
